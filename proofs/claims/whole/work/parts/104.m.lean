abbrev y_Machine_part : MethodName := ⟨"BundleHouse$Machine", "part", "(I)I"⟩
def dl_Machine_part : List (Nat × Instr × Nat) := [(0, .iload_n 1, 1), (1, .tableswitch 125 8 17 #[55, 63, 71, 79, 87, 92, 97, 102, 107, 112], 55), (56, .aload_n 0, 1), (57, .getfield 12, 3), (60, .getfield 70, 3), (63, .ireturn, 1), (64, .aload_n 0, 1), (65, .getfield 12, 3), (68, .getfield 73, 3), (71, .ireturn, 1), (72, .aload_n 0, 1), (73, .getfield 12, 3), (76, .getfield 76, 3), (79, .ireturn, 1), (80, .aload_n 0, 1), (81, .getfield 12, 3), (84, .getfield 79, 3), (87, .ireturn, 1), (88, .aload_n 0, 1), (89, .getfield 55, 3), (92, .ireturn, 1), (93, .aload_n 0, 1), (94, .getfield 58, 3), (97, .ireturn, 1), (98, .aload_n 0, 1), (99, .getfield 61, 3), (102, .ireturn, 1), (103, .aload_n 0, 1), (104, .getfield 44, 3), (107, .ireturn, 1), (108, .aload_n 0, 1), (109, .getfield 64, 3), (112, .ireturn, 1), (113, .aload_n 0, 1), (114, .getfield 51, 3), (117, .ifCond .eq 7, 3), (120, .iconst 1, 1), (121, .goto 4, 3), (124, .iconst 0, 1), (125, .ireturn, 1), (126, .aload_n 0, 1), (127, .iload_n 1, 1), (128, .invokevirtual 82, 3), (131, .ireturn, 1)]
set_option maxRecDepth 100000 in
theorem dk_Machine_part : ∀ q ∈ dl_Machine_part, decode prog_5_method_5_code q.1 = .ok q.2 := by decide +kernel
abbrev rm_Machine_part : Room := { frames := 2, cells := 0, slots := 0, locals := 41 }
theorem cw_Machine_part : CWV y_Machine_part prog_5_method_5_code 2 (some .int) 1 := ⟨⟨g_6_26, g_1_9, by decide, by decide, by decide +kernel⟩, g_6_24, g_6_25⟩
set_option maxHeartbeats 4000000 in
set_option maxRecDepth 100000 in
theorem c_Machine_part (v0 : Nat) (ho_v0 : kd v0 = 8) (v1 : Int32) : MI y_Machine_part rm_Machine_part prog_5_method_5_code 2 .int (fun a => [.ref (a v0), .int v1]) (Machine_part v0 v1) := by
  refine mi_of (by decide) (fun _ => le_ rfl) ?_
  intro k res σ C hR hRm hnL h
  unfold Machine_part at h
  show WW k 0 [(0, .ref (ad k v0)), (1, .int v1)] [] σ
  refine ww_iload_n C 1 rfl rfl (dq dk_Machine_part 0 rfl) ?_
  by_cases e0_8 : v1 = 8
  · rw [if_pos e0_8] at h
    refine ww_tabIn C 56 (dq dk_Machine_part 1 rfl) (by rw [e0_8]; decide) (by rw [e0_8]; decide) (by rw [e0_8]; rfl) (by decide) ?_
    refine ww_aload_n C 0 rfl rfl (dq dk_Machine_part 2 rfl) ?_
    refine ww_getr C ko_Machine 0 ho_v0 (lt_ rfl) g_2_64 rfl rfl (dq dk_Machine_part 3 rfl) ?_
    refine ww_geti C ko_Flags 0 (kc_Machine_0 _ ho_v0) (lt_ rfl) g_2_48 rfl rfl (dq dk_Machine_part 4 rfl) ?_
    exact ww_iret C hR (dq dk_Machine_part 5 rfl) h
  rw [if_neg e0_8] at h
  by_cases e1_9 : v1 = 9
  · rw [if_pos e1_9] at h
    refine ww_tabIn C 64 (dq dk_Machine_part 1 rfl) (by rw [e1_9]; decide) (by rw [e1_9]; decide) (by rw [e1_9]; rfl) (by decide) ?_
    refine ww_aload_n C 0 rfl rfl (dq dk_Machine_part 6 rfl) ?_
    refine ww_getr C ko_Machine 0 ho_v0 (lt_ rfl) g_2_64 rfl rfl (dq dk_Machine_part 7 rfl) ?_
    refine ww_geti C ko_Flags 1 (kc_Machine_0 _ ho_v0) (lt_ rfl) g_2_50 rfl rfl (dq dk_Machine_part 8 rfl) ?_
    exact ww_iret C hR (dq dk_Machine_part 9 rfl) h
  rw [if_neg e1_9] at h
  by_cases e2_10 : v1 = 10
  · rw [if_pos e2_10] at h
    refine ww_tabIn C 72 (dq dk_Machine_part 1 rfl) (by rw [e2_10]; decide) (by rw [e2_10]; decide) (by rw [e2_10]; rfl) (by decide) ?_
    refine ww_aload_n C 0 rfl rfl (dq dk_Machine_part 10 rfl) ?_
    refine ww_getr C ko_Machine 0 ho_v0 (lt_ rfl) g_2_64 rfl rfl (dq dk_Machine_part 11 rfl) ?_
    refine ww_geti C ko_Flags 2 (kc_Machine_0 _ ho_v0) (lt_ rfl) g_2_52 rfl rfl (dq dk_Machine_part 12 rfl) ?_
    exact ww_iret C hR (dq dk_Machine_part 13 rfl) h
  rw [if_neg e2_10] at h
  by_cases e3_11 : v1 = 11
  · rw [if_pos e3_11] at h
    refine ww_tabIn C 80 (dq dk_Machine_part 1 rfl) (by rw [e3_11]; decide) (by rw [e3_11]; decide) (by rw [e3_11]; rfl) (by decide) ?_
    refine ww_aload_n C 0 rfl rfl (dq dk_Machine_part 14 rfl) ?_
    refine ww_getr C ko_Machine 0 ho_v0 (lt_ rfl) g_2_64 rfl rfl (dq dk_Machine_part 15 rfl) ?_
    refine ww_geti C ko_Flags 3 (kc_Machine_0 _ ho_v0) (lt_ rfl) g_2_54 rfl rfl (dq dk_Machine_part 16 rfl) ?_
    exact ww_iret C hR (dq dk_Machine_part 17 rfl) h
  rw [if_neg e3_11] at h
  by_cases e4_12 : v1 = 12
  · rw [if_pos e4_12] at h
    refine ww_tabIn C 88 (dq dk_Machine_part 1 rfl) (by rw [e4_12]; decide) (by rw [e4_12]; decide) (by rw [e4_12]; rfl) (by decide) ?_
    refine ww_aload_n C 0 rfl rfl (dq dk_Machine_part 18 rfl) ?_
    refine ww_geti C ko_Machine 1 ho_v0 (lt_ rfl) g_2_69 rfl rfl (dq dk_Machine_part 19 rfl) ?_
    exact ww_iret C hR (dq dk_Machine_part 20 rfl) h
  rw [if_neg e4_12] at h
  by_cases e5_13 : v1 = 13
  · rw [if_pos e5_13] at h
    refine ww_tabIn C 93 (dq dk_Machine_part 1 rfl) (by rw [e5_13]; decide) (by rw [e5_13]; decide) (by rw [e5_13]; rfl) (by decide) ?_
    refine ww_aload_n C 0 rfl rfl (dq dk_Machine_part 21 rfl) ?_
    refine ww_geti C ko_Machine 2 ho_v0 (lt_ rfl) g_2_72 rfl rfl (dq dk_Machine_part 22 rfl) ?_
    exact ww_iret C hR (dq dk_Machine_part 23 rfl) h
  rw [if_neg e5_13] at h
  by_cases e6_14 : v1 = 14
  · rw [if_pos e6_14] at h
    refine ww_tabIn C 98 (dq dk_Machine_part 1 rfl) (by rw [e6_14]; decide) (by rw [e6_14]; decide) (by rw [e6_14]; rfl) (by decide) ?_
    refine ww_aload_n C 0 rfl rfl (dq dk_Machine_part 24 rfl) ?_
    refine ww_geti C ko_Machine 3 ho_v0 (lt_ rfl) g_2_75 rfl rfl (dq dk_Machine_part 25 rfl) ?_
    exact ww_iret C hR (dq dk_Machine_part 26 rfl) h
  rw [if_neg e6_14] at h
  by_cases e7_15 : v1 = 15
  · rw [if_pos e7_15] at h
    refine ww_tabIn C 103 (dq dk_Machine_part 1 rfl) (by rw [e7_15]; decide) (by rw [e7_15]; decide) (by rw [e7_15]; rfl) (by decide) ?_
    refine ww_aload_n C 0 rfl rfl (dq dk_Machine_part 27 rfl) ?_
    refine ww_geti C ko_Machine 13 ho_v0 (lt_ rfl) g_2_88 rfl rfl (dq dk_Machine_part 28 rfl) ?_
    exact ww_iret C hR (dq dk_Machine_part 29 rfl) h
  rw [if_neg e7_15] at h
  by_cases e8_16 : v1 = 16
  · rw [if_pos e8_16] at h
    refine ww_tabIn C 108 (dq dk_Machine_part 1 rfl) (by rw [e8_16]; decide) (by rw [e8_16]; decide) (by rw [e8_16]; rfl) (by decide) ?_
    refine ww_aload_n C 0 rfl rfl (dq dk_Machine_part 30 rfl) ?_
    refine ww_geti C ko_Machine 4 ho_v0 (lt_ rfl) g_2_76 rfl rfl (dq dk_Machine_part 31 rfl) ?_
    exact ww_iret C hR (dq dk_Machine_part 32 rfl) h
  rw [if_neg e8_16] at h
  by_cases e9_17 : v1 = 17
  · rw [if_pos e9_17] at h
    refine ww_tabIn C 113 (dq dk_Machine_part 1 rfl) (by rw [e9_17]; decide) (by rw [e9_17]; decide) (by rw [e9_17]; rfl) (by decide) ?_
    refine ww_aload_n C 0 rfl rfl (dq dk_Machine_part 33 rfl) ?_
    refine ww_geti C ko_Machine 5 ho_v0 (lt_ rfl) g_2_78 rfl rfl (dq dk_Machine_part 34 rfl) ?_
    refine ww_if_eq C 124 (dq dk_Machine_part 35 rfl) (by decide) h (fun h => ?_) (fun h => ?_)
    · refine ww_iconst C (dq dk_Machine_part 38 rfl) ic_0 ?_
      exact ww_iret C hR (dq dk_Machine_part 39 rfl) h
    · refine ww_iconst C (dq dk_Machine_part 36 rfl) ic_1 ?_
      refine ww_goto C 125 (dq dk_Machine_part 37 rfl) (by decide) ?_
      exact ww_iret C hR (dq dk_Machine_part 39 rfl) h
  rw [if_neg e9_17] at h
  have ne0_8 := lv_neT (a := 8) e0_8 (by decide)
  have ne1_9 := lv_neT (a := 9) e1_9 (by decide)
  have ne2_10 := lv_neT (a := 10) e2_10 (by decide)
  have ne3_11 := lv_neT (a := 11) e3_11 (by decide)
  have ne4_12 := lv_neT (a := 12) e4_12 (by decide)
  have ne5_13 := lv_neT (a := 13) e5_13 (by decide)
  have ne6_14 := lv_neT (a := 14) e6_14 (by decide)
  have ne7_15 := lv_neT (a := 15) e7_15 (by decide)
  have ne8_16 := lv_neT (a := 16) e8_16 (by decide)
  have ne9_17 := lv_neT (a := 17) e9_17 (by decide)
  refine ww_tabOut C 126 (dq dk_Machine_part 1 rfl) (by omega) (by decide) ?_
  refine ww_aload_n C 0 rfl rfl (dq dk_Machine_part 40 rfl) ?_
  refine ww_iload_n C 1 rfl rfl (dq dk_Machine_part 41 rfl) ?_
  refine ww_cVi (st := []) C (c_Machine_registerAt v0 ho_v0 v1) cw_Machine_registerAt ho_v0 (lt_ rfl) rfl g_5_118 hRm ⟨⟨rfl, rfl⟩, le_ rfl, le_ rfl⟩ rfl rfl rfl (le_ rfl) (dq dk_Machine_part 42 rfl) h (fun x2 σ1 h => ?_)
  exact ww_iret C hR (dq dk_Machine_part 43 rfl) h
abbrev y_Machine_byteAt : MethodName := ⟨"BundleHouse$Machine", "byteAt", "(I)I"⟩
def dl_Machine_byteAt : List (Nat × Instr × Nat) := [(0, .iload_n 1, 1), (1, .ifCond .lt 10, 3), (4, .iload_n 1, 1), (5, .sipush 1024, 3), (8, .if_icmp .lt 7, 3), (11, .iconst (-1), 1), (12, .goto 9, 3), (15, .aload_n 0, 1), (16, .getfield 22, 3), (19, .iload_n 1, 1), (20, .iaload, 1), (21, .ireturn, 1)]
set_option maxRecDepth 100000 in
theorem dk_Machine_byteAt : ∀ q ∈ dl_Machine_byteAt, decode prog_5_method_6_code q.1 = .ok q.2 := by decide +kernel
abbrev rm_Machine_byteAt : Room := { frames := 0, cells := 0, slots := 0, locals := 0 }
theorem cw_Machine_byteAt : CWV y_Machine_byteAt prog_5_method_6_code 2 (some .int) 1 := ⟨⟨g_4_154, g_1_9, by decide, by decide, by decide +kernel⟩, g_4_152, g_4_153⟩
set_option maxHeartbeats 4000000 in
set_option maxRecDepth 100000 in
theorem c_Machine_byteAt (v0 : Nat) (ho_v0 : kd v0 = 8) (v1 : Int32) : MI y_Machine_byteAt rm_Machine_byteAt prog_5_method_6_code 2 .int (fun a => [.ref (a v0), .int v1]) (Machine_byteAt v0 v1) := by
  refine mi_of (by decide) (fun _ => le_ rfl) ?_
  intro k res σ C hR hRm hnL h
  unfold Machine_byteAt at h
  show WW k 0 [(0, .ref (ad k v0)), (1, .int v1)] [] σ
  refine ww_iload_n C 1 rfl rfl (dq dk_Machine_byteAt 0 rfl) ?_
  refine ww_if_lt C 11 (dq dk_Machine_byteAt 1 rfl) (by decide) h (fun h => ?_) (fun h => ?_)
  · refine ww_iconst C (dq dk_Machine_byteAt 5 rfl) ic_m1 ?_
    refine ww_goto C 21 (dq dk_Machine_byteAt 6 rfl) (by decide) ?_
    exact ww_iret C hR (dq dk_Machine_byteAt 11 rfl) h
  · refine ww_iload_n C 1 rfl rfl (dq dk_Machine_byteAt 2 rfl) ?_
    refine ww_sipush C (dq dk_Machine_byteAt 3 rfl) sp_1024 ?_
    refine ww_icmp_lt C 15 (dq dk_Machine_byteAt 4 rfl) (by decide) h (fun h => ?_) (fun h => ?_)
    · refine ww_aload_n C 0 rfl rfl (dq dk_Machine_byteAt 7 rfl) ?_
      refine ww_getr C ko_Machine 8 ho_v0 (lt_ rfl) g_2_83 rfl rfl (dq dk_Machine_byteAt 8 rfl) ?_
      refine ww_iload_n C 1 rfl rfl (dq dk_Machine_byteAt 9 rfl) ?_
      refine ww_iald C (kc_Machine_8 _ ho_v0).1 (kc_Machine_8 _ ho_v0).2 (dq dk_Machine_byteAt 10 rfl) h (fun x1 h => ?_)
      exact ww_iret C hR (dq dk_Machine_byteAt 11 rfl) h
    · refine ww_iconst C (dq dk_Machine_byteAt 5 rfl) ic_m1 ?_
      refine ww_goto C 21 (dq dk_Machine_byteAt 6 rfl) (by decide) ?_
      exact ww_iret C hR (dq dk_Machine_byteAt 11 rfl) h
abbrev y_Machine_hasOutput : MethodName := ⟨"BundleHouse$Machine", "hasOutput", "(I)Z"⟩
def dl_Machine_hasOutput : List (Nat × Instr × Nat) := [(0, .iload_n 1, 1), (1, .ifCond .lt 21, 3), (4, .iload_n 1, 1), (5, .aload_n 0, 1), (6, .getfield 44, 3), (9, .if_icmp .ge 13, 3), (12, .iload_n 1, 1), (13, .bipush 100, 2), (15, .if_icmp .ge 7, 3), (18, .iconst 1, 1), (19, .goto 4, 3), (22, .iconst 0, 1), (23, .ireturn, 1)]
set_option maxRecDepth 100000 in
theorem dk_Machine_hasOutput : ∀ q ∈ dl_Machine_hasOutput, decode prog_5_method_7_code q.1 = .ok q.2 := by decide +kernel
abbrev rm_Machine_hasOutput : Room := { frames := 0, cells := 0, slots := 0, locals := 0 }
theorem cw_Machine_hasOutput : CWV y_Machine_hasOutput prog_5_method_7_code 2 (some .boolean) 1 := ⟨⟨g_6_37, g_1_9, by decide, by decide, by decide +kernel⟩, g_6_35, g_6_36⟩
set_option maxHeartbeats 4000000 in
set_option maxRecDepth 100000 in
theorem c_Machine_hasOutput (v0 : Nat) (ho_v0 : kd v0 = 8) (v1 : Int32) : MI y_Machine_hasOutput rm_Machine_hasOutput prog_5_method_7_code 2 .boolean (fun a => [.ref (a v0), .int v1]) (Machine_hasOutput v0 v1) := by
  refine mi_of (by decide) (fun _ => le_ rfl) ?_
  intro k res σ C hR hRm hnL h
  unfold Machine_hasOutput at h
  show WW k 0 [(0, .ref (ad k v0)), (1, .int v1)] [] σ
  refine ww_iload_n C 1 rfl rfl (dq dk_Machine_hasOutput 0 rfl) ?_
  refine ww_if_lt C 22 (dq dk_Machine_hasOutput 1 rfl) (by decide) h (fun h => ?_) (fun h => ?_)
  · refine ww_iconst C (dq dk_Machine_hasOutput 11 rfl) ic_0 ?_
    exact ww_zretL C hR (dq dk_Machine_hasOutput 12 rfl) (Or.inl rfl) h
  · refine ww_iload_n C 1 rfl rfl (dq dk_Machine_hasOutput 2 rfl) ?_
    refine ww_aload_n C 0 rfl rfl (dq dk_Machine_hasOutput 3 rfl) ?_
    refine ww_geti C ko_Machine 13 ho_v0 (lt_ rfl) g_2_88 rfl rfl (dq dk_Machine_hasOutput 4 rfl) ?_
    refine ww_icmp_ge C 22 (dq dk_Machine_hasOutput 5 rfl) (by decide) h (fun h => ?_) (fun h => ?_)
    · refine ww_iconst C (dq dk_Machine_hasOutput 11 rfl) ic_0 ?_
      exact ww_zretL C hR (dq dk_Machine_hasOutput 12 rfl) (Or.inl rfl) h
    · refine ww_iload_n C 1 rfl rfl (dq dk_Machine_hasOutput 6 rfl) ?_
      refine ww_bipush C (dq dk_Machine_hasOutput 7 rfl) bp_100 ?_
      refine ww_icmp_ge C 22 (dq dk_Machine_hasOutput 8 rfl) (by decide) h (fun h => ?_) (fun h => ?_)
      · refine ww_iconst C (dq dk_Machine_hasOutput 11 rfl) ic_0 ?_
        exact ww_zretL C hR (dq dk_Machine_hasOutput 12 rfl) (Or.inl rfl) h
      · refine ww_iconst C (dq dk_Machine_hasOutput 9 rfl) ic_1 ?_
        refine ww_goto C 23 (dq dk_Machine_hasOutput 10 rfl) (by decide) ?_
        exact ww_zretL C hR (dq dk_Machine_hasOutput 12 rfl) (Or.inr rfl) h
abbrev y_Machine_outputAt : MethodName := ⟨"BundleHouse$Machine", "outputAt", "(I)I"⟩
def dl_Machine_outputAt : List (Nat × Instr × Nat) := [(0, .aload_n 0, 1), (1, .iload_n 1, 1), (2, .invokevirtual 86, 3), (5, .ifCond .eq 12, 3), (8, .aload_n 0, 1), (9, .getfield 28, 3), (12, .iload_n 1, 1), (13, .iaload, 1), (14, .goto 4, 3), (17, .iconst (-1), 1), (18, .ireturn, 1)]
set_option maxRecDepth 100000 in
theorem dk_Machine_outputAt : ∀ q ∈ dl_Machine_outputAt, decode prog_5_method_8_code q.1 = .ok q.2 := by decide +kernel
abbrev rm_Machine_outputAt : Room := { frames := 1, cells := 0, slots := 0, locals := 21 }
theorem cw_Machine_outputAt : CWV y_Machine_outputAt prog_5_method_8_code 2 (some .int) 1 := ⟨⟨g_6_42, g_1_9, by decide, by decide, by decide +kernel⟩, g_6_40, g_6_41⟩
set_option maxHeartbeats 4000000 in
set_option maxRecDepth 100000 in
theorem c_Machine_outputAt (v0 : Nat) (ho_v0 : kd v0 = 8) (v1 : Int32) : MI y_Machine_outputAt rm_Machine_outputAt prog_5_method_8_code 2 .int (fun a => [.ref (a v0), .int v1]) (Machine_outputAt v0 v1) := by
  refine mi_of (by decide) (fun _ => le_ rfl) ?_
  intro k res σ C hR hRm hnL h
  unfold Machine_outputAt at h
  show WW k 0 [(0, .ref (ad k v0)), (1, .int v1)] [] σ
  refine ww_aload_n C 0 rfl rfl (dq dk_Machine_outputAt 0 rfl) ?_
  refine ww_iload_n C 1 rfl rfl (dq dk_Machine_outputAt 1 rfl) ?_
  refine ww_cVi (st := []) C (c_Machine_hasOutput v0 ho_v0 v1) cw_Machine_hasOutput ho_v0 (lt_ rfl) rfl g_6_43 hRm ⟨⟨rfl, rfl⟩, le_ rfl, le_ rfl⟩ rfl rfl rfl (le_ rfl) (dq dk_Machine_outputAt 2 rfl) h (fun x2 σ1 h => ?_)
  refine ww_if_eq C 17 (dq dk_Machine_outputAt 3 rfl) (by decide) h (fun h => ?_) (fun h => ?_)
  · refine ww_iconst C (dq dk_Machine_outputAt 9 rfl) ic_m1 ?_
    exact ww_iret C hR (dq dk_Machine_outputAt 10 rfl) h
  · refine ww_aload_n C 0 rfl rfl (dq dk_Machine_outputAt 4 rfl) ?_
    refine ww_getr C ko_Machine 12 ho_v0 (lt_ rfl) g_2_87 rfl rfl (dq dk_Machine_outputAt 5 rfl) ?_
    refine ww_iload_n C 1 rfl rfl (dq dk_Machine_outputAt 6 rfl) ?_
    refine ww_iald C (kc_Machine_12 _ ho_v0).1 (kc_Machine_12 _ ho_v0).2 (dq dk_Machine_outputAt 7 rfl) h (fun x3 h => ?_)
    refine ww_goto C 18 (dq dk_Machine_outputAt 8 rfl) (by decide) ?_
    exact ww_iret C hR (dq dk_Machine_outputAt 10 rfl) h
abbrev y_Machine_give : MethodName := ⟨"BundleHouse$Machine", "give", "(II)V"⟩
def dl_Machine_give : List (Nat × Instr × Nat) := [(0, .iload_n 1, 1), (1, .invokestatic 90, 3), (4, .ifCond .eq 31, 3), (7, .aload_n 0, 1), (8, .getfield 18, 3), (11, .iload_n 1, 1), (12, .iload_n 2, 1), (13, .iastore, 1), (14, .aload_n 0, 1), (15, .aload_n 0, 1), (16, .getfield 51, 3), (19, .ifCond .eq 12, 3), (22, .iload_n 1, 1), (23, .iconst 1, 1), (24, .if_icmp .eq 7, 3), (27, .iconst 1, 1), (28, .goto 4, 3), (31, .iconst 0, 1), (32, .putfield 51, 3), (35, .return_, 1)]
set_option maxRecDepth 100000 in
theorem dk_Machine_give : ∀ q ∈ dl_Machine_give, decode prog_5_method_10_code q.1 = .ok q.2 := by decide +kernel
abbrev rm_Machine_give : Room := { frames := 1, cells := 0, slots := 0, locals := 20 }
theorem cw_Machine_give : CWV y_Machine_give prog_5_method_10_code 3 none 2 := ⟨⟨g_4_129, g_1_9, by decide, by decide, by decide +kernel⟩, g_4_127, g_4_128⟩
set_option maxHeartbeats 4000000 in
set_option maxRecDepth 100000 in
theorem c_Machine_give (v0 : Nat) (ho_v0 : kd v0 = 8) (v1 : Int32) (v2 : Int32) : MV y_Machine_give rm_Machine_give prog_5_method_10_code 3 (fun a => [.ref (a v0), .int v1, .int v2]) (Machine_give v0 v1 v2) := by
  refine mv_of (by decide) (fun _ => le_ rfl) ?_
  intro k res σ C hR hRm hnL h
  unfold Machine_give at h
  show WW k 0 [(0, .ref (ad k v0)), (1, .int v1), (2, .int v2)] [] σ
  refine ww_iload_n C 1 rfl rfl (dq dk_Machine_give 0 rfl) ?_
  refine ww_cNi (st := []) C (c_House_isRegister v1) cw_House_isRegister nw_15 hRm ⟨⟨rfl, rfl⟩, le_ rfl, le_ rfl⟩ rfl rfl rfl (le_ rfl) (dq dk_Machine_give 1 rfl) h (fun x2 σ1 h => ?_)
  refine ww_if_eq C 35 (dq dk_Machine_give 2 rfl) (by decide) h (fun h => ?_) (fun h => ?_)
  · exact ww_vret C hR (dq dk_Machine_give 19 rfl) h
  · refine ww_aload_n C 0 rfl rfl (dq dk_Machine_give 3 rfl) ?_
    refine ww_getr C ko_Machine 7 ho_v0 (lt_ rfl) g_2_82 rfl rfl (dq dk_Machine_give 4 rfl) ?_
    refine ww_iload_n C 1 rfl rfl (dq dk_Machine_give 5 rfl) ?_
    refine ww_iload_n C 2 rfl rfl (dq dk_Machine_give 6 rfl) ?_
    refine ww_iast C (kc_Machine_7 _ ho_v0).1 (kc_Machine_7 _ ho_v0).2 (dq dk_Machine_give 7 rfl) h (fun σ3 h => ?_)
    refine ww_aload_n C 0 rfl rfl (dq dk_Machine_give 8 rfl) ?_
    refine ww_aload_n C 0 rfl rfl (dq dk_Machine_give 9 rfl) ?_
    refine ww_geti C ko_Machine 5 ho_v0 (lt_ rfl) g_2_78 rfl rfl (dq dk_Machine_give 10 rfl) ?_
    refine ww_if_eq C 31 (dq dk_Machine_give 11 rfl) (by decide) h (fun h => ?_) (fun h => ?_)
    · refine ww_iconst C (dq dk_Machine_give 17 rfl) ic_0 ?_
      refine ww_putZ C ko_Machine 5 ho_v0 (lt_ rfl) g_2_78 rfl rfl rfl rfl (Or.inl rfl) (dq dk_Machine_give 18 rfl) h (fun σ4 h => ?_)
      exact ww_vret C hR (dq dk_Machine_give 19 rfl) h
    · refine ww_iload_n C 1 rfl rfl (dq dk_Machine_give 12 rfl) ?_
      refine ww_iconst C (dq dk_Machine_give 13 rfl) ic_1 ?_
      refine ww_icmp_eq C 31 (dq dk_Machine_give 14 rfl) (by decide) h (fun h => ?_) (fun h => ?_)
      · refine ww_iconst C (dq dk_Machine_give 17 rfl) ic_0 ?_
        refine ww_putZ C ko_Machine 5 ho_v0 (lt_ rfl) g_2_78 rfl rfl rfl rfl (Or.inl rfl) (dq dk_Machine_give 18 rfl) h (fun σ5 h => ?_)
        exact ww_vret C hR (dq dk_Machine_give 19 rfl) h
      · refine ww_iconst C (dq dk_Machine_give 15 rfl) ic_1 ?_
        refine ww_goto C 32 (dq dk_Machine_give 16 rfl) (by decide) ?_
        refine ww_putZ C ko_Machine 5 ho_v0 (lt_ rfl) g_2_78 rfl rfl rfl rfl (Or.inr rfl) (dq dk_Machine_give 18 rfl) h (fun σ6 h => ?_)
        exact ww_vret C hR (dq dk_Machine_give 19 rfl) h
abbrev y_House_isWord : MethodName := ⟨"BundleHouse", "isWord", "(I)Z"⟩
def dl_House_isWord : List (Nat × Instr × Nat) := [(0, .iload_n 0, 1), (1, .ifCond .lt 14, 3), (4, .iload_n 0, 1), (5, .sipush 1020, 3), (8, .if_icmp .gt 7, 3), (11, .iconst 1, 1), (12, .goto 4, 3), (15, .iconst 0, 1), (16, .ireturn, 1)]
set_option maxRecDepth 100000 in
theorem dk_House_isWord : ∀ q ∈ dl_House_isWord, decode prog_1_method_29_code q.1 = .ok q.2 := by decide +kernel
abbrev rm_House_isWord : Room := { frames := 0, cells := 0, slots := 0, locals := 0 }
theorem cw_House_isWord : CWS y_House_isWord prog_1_method_29_code 1 (some .boolean) 1 := ⟨⟨g_4_133, g_1_1, by decide, by decide, by decide +kernel⟩, g_4_132⟩
set_option maxHeartbeats 4000000 in
set_option maxRecDepth 100000 in
theorem c_House_isWord (v0 : Int32) : MI y_House_isWord rm_House_isWord prog_1_method_29_code 1 .boolean (fun a => [.int v0]) (House_isWord v0) := by
  refine mi_of (by decide) (fun _ => le_ rfl) ?_
  intro k res σ C hR hRm hnL h
  unfold House_isWord at h
  show WW k 0 [(0, .int v0)] [] σ
  refine ww_iload_n C 0 rfl rfl (dq dk_House_isWord 0 rfl) ?_
  refine ww_if_lt C 15 (dq dk_House_isWord 1 rfl) (by decide) h (fun h => ?_) (fun h => ?_)
  · refine ww_iconst C (dq dk_House_isWord 7 rfl) ic_0 ?_
    exact ww_zretL C hR (dq dk_House_isWord 8 rfl) (Or.inl rfl) h
  · refine ww_iload_n C 0 rfl rfl (dq dk_House_isWord 2 rfl) ?_
    refine ww_sipush C (dq dk_House_isWord 3 rfl) sp_1020 ?_
    refine ww_icmp_gt C 15 (dq dk_House_isWord 4 rfl) (by decide) h (fun h => ?_) (fun h => ?_)
    · refine ww_iconst C (dq dk_House_isWord 7 rfl) ic_0 ?_
      exact ww_zretL C hR (dq dk_House_isWord 8 rfl) (Or.inl rfl) h
    · refine ww_iconst C (dq dk_House_isWord 5 rfl) ic_1 ?_
      refine ww_goto C 16 (dq dk_House_isWord 6 rfl) (by decide) ?_
      exact ww_zretL C hR (dq dk_House_isWord 8 rfl) (Or.inr rfl) h
abbrev y_Machine_wordAt : MethodName := ⟨"BundleHouse$Machine", "wordAt", "(I)I"⟩
def dl_Machine_wordAt : List (Nat × Instr × Nat) := [(0, .iload_n 1, 1), (1, .invokestatic 93, 3), (4, .ifCond .ne 5, 3), (7, .iconst 0, 1), (8, .ireturn, 1), (9, .aload_n 0, 1), (10, .getfield 22, 3), (13, .iload_n 1, 1), (14, .iaload, 1), (15, .aload_n 0, 1), (16, .getfield 22, 3), (19, .iload_n 1, 1), (20, .iconst 1, 1), (21, .iadd, 1), (22, .iaload, 1), (23, .bipush 8, 2), (25, .ishl, 1), (26, .ior, 1), (27, .aload_n 0, 1), (28, .getfield 22, 3), (31, .iload_n 1, 1), (32, .iconst 2, 1), (33, .iadd, 1), (34, .iaload, 1), (35, .bipush 16, 2), (37, .ishl, 1), (38, .ior, 1), (39, .aload_n 0, 1), (40, .getfield 22, 3), (43, .iload_n 1, 1), (44, .iconst 3, 1), (45, .iadd, 1), (46, .iaload, 1), (47, .bipush 24, 2), (49, .ishl, 1), (50, .ior, 1), (51, .ireturn, 1)]
set_option maxRecDepth 100000 in
theorem dk_Machine_wordAt : ∀ q ∈ dl_Machine_wordAt, decode prog_5_method_11_code q.1 = .ok q.2 := by decide +kernel
abbrev rm_Machine_wordAt : Room := { frames := 1, cells := 0, slots := 0, locals := 20 }
theorem cw_Machine_wordAt : CWV y_Machine_wordAt prog_5_method_11_code 2 (some .int) 1 := ⟨⟨g_5_76, g_1_9, by decide, by decide, by decide +kernel⟩, g_5_74, g_5_75⟩
set_option maxHeartbeats 4000000 in
set_option maxRecDepth 100000 in
theorem c_Machine_wordAt (v0 : Nat) (ho_v0 : kd v0 = 8) (v1 : Int32) : MI y_Machine_wordAt rm_Machine_wordAt prog_5_method_11_code 2 .int (fun a => [.ref (a v0), .int v1]) (Machine_wordAt v0 v1) := by
  refine mi_of (by decide) (fun _ => le_ rfl) ?_
  intro k res σ C hR hRm hnL h
  unfold Machine_wordAt at h
  show WW k 0 [(0, .ref (ad k v0)), (1, .int v1)] [] σ
  refine ww_iload_n C 1 rfl rfl (dq dk_Machine_wordAt 0 rfl) ?_
  refine ww_cNi (st := []) C (c_House_isWord v1) cw_House_isWord nw_16 hRm ⟨⟨rfl, rfl⟩, le_ rfl, le_ rfl⟩ rfl rfl rfl (le_ rfl) (dq dk_Machine_wordAt 1 rfl) h (fun x2 σ1 h => ?_)
  refine ww_if_ne C 9 (dq dk_Machine_wordAt 2 rfl) (by decide) h (fun h => ?_) (fun h => ?_)
  · refine ww_aload_n C 0 rfl rfl (dq dk_Machine_wordAt 5 rfl) ?_
    refine ww_getr C ko_Machine 8 ho_v0 (lt_ rfl) g_2_83 rfl rfl (dq dk_Machine_wordAt 6 rfl) ?_
    refine ww_iload_n C 1 rfl rfl (dq dk_Machine_wordAt 7 rfl) ?_
    refine ww_iald C (kc_Machine_8 _ ho_v0).1 (kc_Machine_8 _ ho_v0).2 (dq dk_Machine_wordAt 8 rfl) h (fun x3 h => ?_)
    refine ww_aload_n C 0 rfl rfl (dq dk_Machine_wordAt 9 rfl) ?_
    refine ww_getr C ko_Machine 8 ho_v0 (lt_ rfl) g_2_83 rfl rfl (dq dk_Machine_wordAt 10 rfl) ?_
    refine ww_iload_n C 1 rfl rfl (dq dk_Machine_wordAt 11 rfl) ?_
    refine ww_iconst C (dq dk_Machine_wordAt 12 rfl) ic_1 ?_
    refine ww_iadd C (dq dk_Machine_wordAt 13 rfl) ?_
    refine ww_iald C (kc_Machine_8 _ ho_v0).1 (kc_Machine_8 _ ho_v0).2 (dq dk_Machine_wordAt 14 rfl) h (fun x4 h => ?_)
    refine ww_bipush C (dq dk_Machine_wordAt 15 rfl) bp_8 ?_
    refine ww_ishl C (dq dk_Machine_wordAt 16 rfl) ?_
    refine ww_ior C (dq dk_Machine_wordAt 17 rfl) ?_
    refine ww_aload_n C 0 rfl rfl (dq dk_Machine_wordAt 18 rfl) ?_
    refine ww_getr C ko_Machine 8 ho_v0 (lt_ rfl) g_2_83 rfl rfl (dq dk_Machine_wordAt 19 rfl) ?_
    refine ww_iload_n C 1 rfl rfl (dq dk_Machine_wordAt 20 rfl) ?_
    refine ww_iconst C (dq dk_Machine_wordAt 21 rfl) ic_2 ?_
    refine ww_iadd C (dq dk_Machine_wordAt 22 rfl) ?_
    refine ww_iald C (kc_Machine_8 _ ho_v0).1 (kc_Machine_8 _ ho_v0).2 (dq dk_Machine_wordAt 23 rfl) h (fun x5 h => ?_)
    refine ww_bipush C (dq dk_Machine_wordAt 24 rfl) bp_16 ?_
    refine ww_ishl C (dq dk_Machine_wordAt 25 rfl) ?_
    refine ww_ior C (dq dk_Machine_wordAt 26 rfl) ?_
    refine ww_aload_n C 0 rfl rfl (dq dk_Machine_wordAt 27 rfl) ?_
    refine ww_getr C ko_Machine 8 ho_v0 (lt_ rfl) g_2_83 rfl rfl (dq dk_Machine_wordAt 28 rfl) ?_
    refine ww_iload_n C 1 rfl rfl (dq dk_Machine_wordAt 29 rfl) ?_
    refine ww_iconst C (dq dk_Machine_wordAt 30 rfl) ic_3 ?_
    refine ww_iadd C (dq dk_Machine_wordAt 31 rfl) ?_
    refine ww_iald C (kc_Machine_8 _ ho_v0).1 (kc_Machine_8 _ ho_v0).2 (dq dk_Machine_wordAt 32 rfl) h (fun x6 h => ?_)
    refine ww_bipush C (dq dk_Machine_wordAt 33 rfl) bp_24 ?_
    refine ww_ishl C (dq dk_Machine_wordAt 34 rfl) ?_
    refine ww_ior C (dq dk_Machine_wordAt 35 rfl) ?_
    exact ww_iret C hR (dq dk_Machine_wordAt 36 rfl) h
  · refine ww_iconst C (dq dk_Machine_wordAt 3 rfl) ic_0 ?_
    exact ww_iret C hR (dq dk_Machine_wordAt 4 rfl) h
abbrev y_Machine_giveWord : MethodName := ⟨"BundleHouse$Machine", "giveWord", "(II)V"⟩
def dl_Machine_giveWord : List (Nat × Instr × Nat) := [(0, .iload_n 1, 1), (1, .invokestatic 93, 3), (4, .ifCond .eq 58, 3), (7, .aload_n 0, 1), (8, .getfield 22, 3), (11, .iload_n 1, 1), (12, .iload_n 2, 1), (13, .sipush 255, 3), (16, .iand, 1), (17, .iastore, 1), (18, .aload_n 0, 1), (19, .getfield 22, 3), (22, .iload_n 1, 1), (23, .iconst 1, 1), (24, .iadd, 1), (25, .iload_n 2, 1), (26, .bipush 8, 2), (28, .iushr, 1), (29, .sipush 255, 3), (32, .iand, 1), (33, .iastore, 1), (34, .aload_n 0, 1), (35, .getfield 22, 3), (38, .iload_n 1, 1), (39, .iconst 2, 1), (40, .iadd, 1), (41, .iload_n 2, 1), (42, .bipush 16, 2), (44, .iushr, 1), (45, .sipush 255, 3), (48, .iand, 1), (49, .iastore, 1), (50, .aload_n 0, 1), (51, .getfield 22, 3), (54, .iload_n 1, 1), (55, .iconst 3, 1), (56, .iadd, 1), (57, .iload_n 2, 1), (58, .bipush 24, 2), (60, .iushr, 1), (61, .iastore, 1), (62, .return_, 1)]
set_option maxRecDepth 100000 in
theorem dk_Machine_giveWord : ∀ q ∈ dl_Machine_giveWord, decode prog_5_method_12_code q.1 = .ok q.2 := by decide +kernel
abbrev rm_Machine_giveWord : Room := { frames := 1, cells := 0, slots := 0, locals := 20 }
theorem cw_Machine_giveWord : CWV y_Machine_giveWord prog_5_method_12_code 3 none 2 := ⟨⟨g_4_137, g_1_9, by decide, by decide, by decide +kernel⟩, g_4_135, g_4_136⟩
set_option maxHeartbeats 4000000 in
set_option maxRecDepth 100000 in
theorem c_Machine_giveWord (v0 : Nat) (ho_v0 : kd v0 = 8) (v1 : Int32) (v2 : Int32) : MV y_Machine_giveWord rm_Machine_giveWord prog_5_method_12_code 3 (fun a => [.ref (a v0), .int v1, .int v2]) (Machine_giveWord v0 v1 v2) := by
  refine mv_of (by decide) (fun _ => le_ rfl) ?_
  intro k res σ C hR hRm hnL h
  unfold Machine_giveWord at h
  show WW k 0 [(0, .ref (ad k v0)), (1, .int v1), (2, .int v2)] [] σ
  refine ww_iload_n C 1 rfl rfl (dq dk_Machine_giveWord 0 rfl) ?_
  refine ww_cNi (st := []) C (c_House_isWord v1) cw_House_isWord nw_16 hRm ⟨⟨rfl, rfl⟩, le_ rfl, le_ rfl⟩ rfl rfl rfl (le_ rfl) (dq dk_Machine_giveWord 1 rfl) h (fun x2 σ1 h => ?_)
  refine ww_if_eq C 62 (dq dk_Machine_giveWord 2 rfl) (by decide) h (fun h => ?_) (fun h => ?_)
  · exact ww_vret C hR (dq dk_Machine_giveWord 41 rfl) h
  · refine ww_aload_n C 0 rfl rfl (dq dk_Machine_giveWord 3 rfl) ?_
    refine ww_getr C ko_Machine 8 ho_v0 (lt_ rfl) g_2_83 rfl rfl (dq dk_Machine_giveWord 4 rfl) ?_
    refine ww_iload_n C 1 rfl rfl (dq dk_Machine_giveWord 5 rfl) ?_
    refine ww_iload_n C 2 rfl rfl (dq dk_Machine_giveWord 6 rfl) ?_
    refine ww_sipush C (dq dk_Machine_giveWord 7 rfl) sp_255 ?_
    refine ww_iand C (dq dk_Machine_giveWord 8 rfl) ?_
    refine ww_iast C (kc_Machine_8 _ ho_v0).1 (kc_Machine_8 _ ho_v0).2 (dq dk_Machine_giveWord 9 rfl) h (fun σ3 h => ?_)
    refine ww_aload_n C 0 rfl rfl (dq dk_Machine_giveWord 10 rfl) ?_
    refine ww_getr C ko_Machine 8 ho_v0 (lt_ rfl) g_2_83 rfl rfl (dq dk_Machine_giveWord 11 rfl) ?_
    refine ww_iload_n C 1 rfl rfl (dq dk_Machine_giveWord 12 rfl) ?_
    refine ww_iconst C (dq dk_Machine_giveWord 13 rfl) ic_1 ?_
    refine ww_iadd C (dq dk_Machine_giveWord 14 rfl) ?_
    refine ww_iload_n C 2 rfl rfl (dq dk_Machine_giveWord 15 rfl) ?_
    refine ww_bipush C (dq dk_Machine_giveWord 16 rfl) bp_8 ?_
    refine ww_iushr C (dq dk_Machine_giveWord 17 rfl) ?_
    refine ww_sipush C (dq dk_Machine_giveWord 18 rfl) sp_255 ?_
    refine ww_iand C (dq dk_Machine_giveWord 19 rfl) ?_
    refine ww_iast C (kc_Machine_8 _ ho_v0).1 (kc_Machine_8 _ ho_v0).2 (dq dk_Machine_giveWord 20 rfl) h (fun σ4 h => ?_)
    refine ww_aload_n C 0 rfl rfl (dq dk_Machine_giveWord 21 rfl) ?_
    refine ww_getr C ko_Machine 8 ho_v0 (lt_ rfl) g_2_83 rfl rfl (dq dk_Machine_giveWord 22 rfl) ?_
    refine ww_iload_n C 1 rfl rfl (dq dk_Machine_giveWord 23 rfl) ?_
    refine ww_iconst C (dq dk_Machine_giveWord 24 rfl) ic_2 ?_
    refine ww_iadd C (dq dk_Machine_giveWord 25 rfl) ?_
    refine ww_iload_n C 2 rfl rfl (dq dk_Machine_giveWord 26 rfl) ?_
    refine ww_bipush C (dq dk_Machine_giveWord 27 rfl) bp_16 ?_
    refine ww_iushr C (dq dk_Machine_giveWord 28 rfl) ?_
    refine ww_sipush C (dq dk_Machine_giveWord 29 rfl) sp_255 ?_
    refine ww_iand C (dq dk_Machine_giveWord 30 rfl) ?_
    refine ww_iast C (kc_Machine_8 _ ho_v0).1 (kc_Machine_8 _ ho_v0).2 (dq dk_Machine_giveWord 31 rfl) h (fun σ5 h => ?_)
    refine ww_aload_n C 0 rfl rfl (dq dk_Machine_giveWord 32 rfl) ?_
    refine ww_getr C ko_Machine 8 ho_v0 (lt_ rfl) g_2_83 rfl rfl (dq dk_Machine_giveWord 33 rfl) ?_
    refine ww_iload_n C 1 rfl rfl (dq dk_Machine_giveWord 34 rfl) ?_
    refine ww_iconst C (dq dk_Machine_giveWord 35 rfl) ic_3 ?_
    refine ww_iadd C (dq dk_Machine_giveWord 36 rfl) ?_
    refine ww_iload_n C 2 rfl rfl (dq dk_Machine_giveWord 37 rfl) ?_
    refine ww_bipush C (dq dk_Machine_giveWord 38 rfl) bp_24 ?_
    refine ww_iushr C (dq dk_Machine_giveWord 39 rfl) ?_
    refine ww_iast C (kc_Machine_8 _ ho_v0).1 (kc_Machine_8 _ ho_v0).2 (dq dk_Machine_giveWord 40 rfl) h (fun σ6 h => ?_)
    exact ww_vret C hR (dq dk_Machine_giveWord 41 rfl) h
abbrev y_Machine_canPush : MethodName := ⟨"BundleHouse$Machine", "canPush", "()Z"⟩
def dl_Machine_canPush : List (Nat × Instr × Nat) := [(0, .aload_n 0, 1), (1, .getfield 18, 3), (4, .iconst 4, 1), (5, .iaload, 1), (6, .iconst 4, 1), (7, .isub, 1), (8, .invokestatic 93, 3), (11, .ireturn, 1)]
set_option maxRecDepth 100000 in
theorem dk_Machine_canPush : ∀ q ∈ dl_Machine_canPush, decode prog_5_method_13_code q.1 = .ok q.2 := by decide +kernel
abbrev rm_Machine_canPush : Room := { frames := 1, cells := 0, slots := 0, locals := 20 }
theorem cw_Machine_canPush : CWV y_Machine_canPush prog_5_method_13_code 1 (some .boolean) 0 := ⟨⟨g_5_89, g_1_9, by decide, by decide, by decide +kernel⟩, g_5_87, g_5_88⟩
set_option maxHeartbeats 4000000 in
set_option maxRecDepth 100000 in
theorem c_Machine_canPush (v0 : Nat) (ho_v0 : kd v0 = 8) : MI y_Machine_canPush rm_Machine_canPush prog_5_method_13_code 1 .boolean (fun a => [.ref (a v0)]) (Machine_canPush v0) := by
  refine mi_of (by decide) (fun _ => le_ rfl) ?_
  intro k res σ C hR hRm hnL h
  unfold Machine_canPush at h
  show WW k 0 [(0, .ref (ad k v0))] [] σ
  refine ww_aload_n C 0 rfl rfl (dq dk_Machine_canPush 0 rfl) ?_
  refine ww_getr C ko_Machine 7 ho_v0 (lt_ rfl) g_2_82 rfl rfl (dq dk_Machine_canPush 1 rfl) ?_
  refine ww_iconst C (dq dk_Machine_canPush 2 rfl) ic_4 ?_
  refine ww_iald C (kc_Machine_7 _ ho_v0).1 (kc_Machine_7 _ ho_v0).2 (dq dk_Machine_canPush 3 rfl) h (fun x1 h => ?_)
  refine ww_iconst C (dq dk_Machine_canPush 4 rfl) ic_4 ?_
  refine ww_isub C (dq dk_Machine_canPush 5 rfl) ?_
  refine ww_cNi (st := []) C (c_House_isWord (x1 - 4)) cw_House_isWord nw_16 hRm ⟨⟨rfl, rfl⟩, le_ rfl, le_ rfl⟩ rfl rfl rfl (le_ rfl) (dq dk_Machine_canPush 6 rfl) h (fun x3 σ2 h => ?_)
  exact ww_zret C hR (dq dk_Machine_canPush 7 rfl) h
abbrev y_Machine_canPop : MethodName := ⟨"BundleHouse$Machine", "canPop", "()Z"⟩
def dl_Machine_canPop : List (Nat × Instr × Nat) := [(0, .aload_n 0, 1), (1, .getfield 18, 3), (4, .iconst 4, 1), (5, .iaload, 1), (6, .invokestatic 93, 3), (9, .ireturn, 1)]
set_option maxRecDepth 100000 in
theorem dk_Machine_canPop : ∀ q ∈ dl_Machine_canPop, decode prog_5_method_14_code q.1 = .ok q.2 := by decide +kernel
abbrev rm_Machine_canPop : Room := { frames := 1, cells := 0, slots := 0, locals := 20 }
theorem cw_Machine_canPop : CWV y_Machine_canPop prog_5_method_14_code 1 (some .boolean) 0 := ⟨⟨g_5_60, g_1_9, by decide, by decide, by decide +kernel⟩, g_5_58, g_5_59⟩
set_option maxHeartbeats 4000000 in
set_option maxRecDepth 100000 in
theorem c_Machine_canPop (v0 : Nat) (ho_v0 : kd v0 = 8) : MI y_Machine_canPop rm_Machine_canPop prog_5_method_14_code 1 .boolean (fun a => [.ref (a v0)]) (Machine_canPop v0) := by
  refine mi_of (by decide) (fun _ => le_ rfl) ?_
  intro k res σ C hR hRm hnL h
  unfold Machine_canPop at h
  show WW k 0 [(0, .ref (ad k v0))] [] σ
  refine ww_aload_n C 0 rfl rfl (dq dk_Machine_canPop 0 rfl) ?_
  refine ww_getr C ko_Machine 7 ho_v0 (lt_ rfl) g_2_82 rfl rfl (dq dk_Machine_canPop 1 rfl) ?_
  refine ww_iconst C (dq dk_Machine_canPop 2 rfl) ic_4 ?_
  refine ww_iald C (kc_Machine_7 _ ho_v0).1 (kc_Machine_7 _ ho_v0).2 (dq dk_Machine_canPop 3 rfl) h (fun x1 h => ?_)
  refine ww_cNi (st := []) C (c_House_isWord x1) cw_House_isWord nw_16 hRm ⟨⟨rfl, rfl⟩, le_ rfl, le_ rfl⟩ rfl rfl rfl (le_ rfl) (dq dk_Machine_canPop 4 rfl) h (fun x3 σ2 h => ?_)
  exact ww_zret C hR (dq dk_Machine_canPop 5 rfl) h
abbrev y_Machine_push : MethodName := ⟨"BundleHouse$Machine", "push", "(I)V"⟩
def dl_Machine_push : List (Nat × Instr × Nat) := [(0, .aload_n 0, 1), (1, .getfield 18, 3), (4, .iconst 4, 1), (5, .dup2, 1), (6, .iaload, 1), (7, .iconst 4, 1), (8, .isub, 1), (9, .iastore, 1), (10, .aload_n 0, 1), (11, .aload_n 0, 1), (12, .getfield 18, 3), (15, .iconst 4, 1), (16, .iaload, 1), (17, .iload_n 1, 1), (18, .invokevirtual 96, 3), (21, .return_, 1)]
set_option maxRecDepth 100000 in
theorem dk_Machine_push : ∀ q ∈ dl_Machine_push, decode prog_5_method_15_code q.1 = .ok q.2 := by decide +kernel
abbrev rm_Machine_push : Room := { frames := 2, cells := 0, slots := 0, locals := 42 }
theorem cw_Machine_push : CWV y_Machine_push prog_5_method_15_code 2 none 1 := ⟨⟨g_5_97, g_1_9, by decide, by decide, by decide +kernel⟩, g_5_95, g_5_96⟩
set_option maxHeartbeats 4000000 in
set_option maxRecDepth 100000 in
theorem c_Machine_push (v0 : Nat) (ho_v0 : kd v0 = 8) (v1 : Int32) : MV y_Machine_push rm_Machine_push prog_5_method_15_code 2 (fun a => [.ref (a v0), .int v1]) (Machine_push v0 v1) := by
  refine mv_of (by decide) (fun _ => le_ rfl) ?_
  intro k res σ C hR hRm hnL h
  unfold Machine_push at h
  show WW k 0 [(0, .ref (ad k v0)), (1, .int v1)] [] σ
  refine ww_aload_n C 0 rfl rfl (dq dk_Machine_push 0 rfl) ?_
  refine ww_getr C ko_Machine 7 ho_v0 (lt_ rfl) g_2_82 rfl rfl (dq dk_Machine_push 1 rfl) ?_
  refine ww_iconst C (dq dk_Machine_push 2 rfl) ic_4 ?_
  refine ww_dup2 C rfl rfl (dq dk_Machine_push 3 rfl) ?_
  refine ww_iald C (kc_Machine_7 _ ho_v0).1 (kc_Machine_7 _ ho_v0).2 (dq dk_Machine_push 4 rfl) h (fun x1 h => ?_)
  refine ww_iconst C (dq dk_Machine_push 5 rfl) ic_4 ?_
  refine ww_isub C (dq dk_Machine_push 6 rfl) ?_
  refine ww_iast C (kc_Machine_7 _ ho_v0).1 (kc_Machine_7 _ ho_v0).2 (dq dk_Machine_push 7 rfl) h (fun σ2 h => ?_)
  refine ww_aload_n C 0 rfl rfl (dq dk_Machine_push 8 rfl) ?_
  refine ww_aload_n C 0 rfl rfl (dq dk_Machine_push 9 rfl) ?_
  refine ww_getr C ko_Machine 7 ho_v0 (lt_ rfl) g_2_82 rfl rfl (dq dk_Machine_push 10 rfl) ?_
  refine ww_iconst C (dq dk_Machine_push 11 rfl) ic_4 ?_
  refine ww_iald C (kc_Machine_7 _ ho_v0).1 (kc_Machine_7 _ ho_v0).2 (dq dk_Machine_push 12 rfl) h (fun x3 h => ?_)
  refine ww_iload_n C 1 rfl rfl (dq dk_Machine_push 13 rfl) ?_
  refine ww_cVv (st := []) C (c_Machine_giveWord v0 ho_v0 x3 v1) cw_Machine_giveWord ho_v0 (lt_ rfl) rfl g_5_98 hRm ⟨⟨rfl, rfl⟩, le_ rfl, le_ rfl⟩ rfl rfl rfl (le_ rfl) (dq dk_Machine_push 14 rfl) h (fun σ4 h => ?_)
  exact ww_vret C hR (dq dk_Machine_push 15 rfl) h
abbrev y_Machine_pop : MethodName := ⟨"BundleHouse$Machine", "pop", "()I"⟩
def dl_Machine_pop : List (Nat × Instr × Nat) := [(0, .aload_n 0, 1), (1, .aload_n 0, 1), (2, .getfield 18, 3), (5, .iconst 4, 1), (6, .iaload, 1), (7, .invokevirtual 100, 3), (10, .istore_n 1, 1), (11, .aload_n 0, 1), (12, .getfield 18, 3), (15, .iconst 4, 1), (16, .dup2, 1), (17, .iaload, 1), (18, .iconst 4, 1), (19, .iadd, 1), (20, .iastore, 1), (21, .iload_n 1, 1), (22, .ireturn, 1)]
set_option maxRecDepth 100000 in
theorem dk_Machine_pop : ∀ q ∈ dl_Machine_pop, decode prog_5_method_16_code q.1 = .ok q.2 := by decide +kernel
abbrev rm_Machine_pop : Room := { frames := 2, cells := 0, slots := 0, locals := 41 }
theorem cw_Machine_pop : CWV y_Machine_pop prog_5_method_16_code 2 (some .int) 0 := ⟨⟨g_5_72, g_1_9, by decide, by decide, by decide +kernel⟩, g_5_70, g_5_71⟩
set_option maxHeartbeats 4000000 in
set_option maxRecDepth 100000 in
theorem c_Machine_pop (v0 : Nat) (ho_v0 : kd v0 = 8) : MI y_Machine_pop rm_Machine_pop prog_5_method_16_code 2 .int (fun a => [.ref (a v0)]) (Machine_pop v0) := by
  refine mi_of (by decide) (fun _ => le_ rfl) ?_
  intro k res σ C hR hRm hnL h
  unfold Machine_pop at h
  show WW k 0 [(0, .ref (ad k v0))] [] σ
  refine ww_aload_n C 0 rfl rfl (dq dk_Machine_pop 0 rfl) ?_
  refine ww_aload_n C 0 rfl rfl (dq dk_Machine_pop 1 rfl) ?_
  refine ww_getr C ko_Machine 7 ho_v0 (lt_ rfl) g_2_82 rfl rfl (dq dk_Machine_pop 2 rfl) ?_
  refine ww_iconst C (dq dk_Machine_pop 3 rfl) ic_4 ?_
  refine ww_iald C (kc_Machine_7 _ ho_v0).1 (kc_Machine_7 _ ho_v0).2 (dq dk_Machine_pop 4 rfl) h (fun x1 h => ?_)
  refine ww_cVi (st := []) C (c_Machine_wordAt v0 ho_v0 x1) cw_Machine_wordAt ho_v0 (lt_ rfl) rfl g_5_73 hRm ⟨⟨rfl, rfl⟩, le_ rfl, le_ rfl⟩ rfl rfl rfl (le_ rfl) (dq dk_Machine_pop 5 rfl) h (fun x3 σ2 h => ?_)
  refine ww_istore_n C [(1, .int x3), (0, .ref (ad k v0))] rfl hnL (lt_ rfl) rfl (dq dk_Machine_pop 6 rfl) ?_
  refine ww_aload_n C 1 rfl rfl (dq dk_Machine_pop 7 rfl) ?_
  refine ww_getr C ko_Machine 7 ho_v0 (lt_ rfl) g_2_82 rfl rfl (dq dk_Machine_pop 8 rfl) ?_
  refine ww_iconst C (dq dk_Machine_pop 9 rfl) ic_4 ?_
  refine ww_dup2 C rfl rfl (dq dk_Machine_pop 10 rfl) ?_
  refine ww_iald C (kc_Machine_7 _ ho_v0).1 (kc_Machine_7 _ ho_v0).2 (dq dk_Machine_pop 11 rfl) h (fun x4 h => ?_)
  refine ww_iconst C (dq dk_Machine_pop 12 rfl) ic_4 ?_
  refine ww_iadd C (dq dk_Machine_pop 13 rfl) ?_
  refine ww_iast C (kc_Machine_7 _ ho_v0).1 (kc_Machine_7 _ ho_v0).2 (dq dk_Machine_pop 14 rfl) h (fun σ5 h => ?_)
  refine ww_iload_n C 0 rfl rfl (dq dk_Machine_pop 15 rfl) ?_
  exact ww_iret C hR (dq dk_Machine_pop 16 rfl) h
abbrev y_Machine_isFullFor : MethodName := ⟨"BundleHouse$Machine", "isFullFor", "(I)Z"⟩
def dl_Machine_isFullFor : List (Nat × Instr × Nat) := [(0, .iload_n 1, 1), (1, .bipush 16, 2), (3, .if_icmp .ne 16, 3), (6, .aload_n 0, 1), (7, .getfield 44, 3), (10, .bipush 100, 2), (12, .if_icmp .lt 7, 3), (15, .iconst 1, 1), (16, .goto 4, 3), (19, .iconst 0, 1), (20, .ireturn, 1)]
set_option maxRecDepth 100000 in
theorem dk_Machine_isFullFor : ∀ q ∈ dl_Machine_isFullFor, decode prog_5_method_17_code q.1 = .ok q.2 := by decide +kernel
abbrev rm_Machine_isFullFor : Room := { frames := 0, cells := 0, slots := 0, locals := 0 }
theorem cw_Machine_isFullFor : CWV y_Machine_isFullFor prog_5_method_17_code 2 (some .boolean) 1 := ⟨⟨g_5_64, g_1_9, by decide, by decide, by decide +kernel⟩, g_5_62, g_5_63⟩
set_option maxHeartbeats 4000000 in
set_option maxRecDepth 100000 in
theorem c_Machine_isFullFor (v0 : Nat) (ho_v0 : kd v0 = 8) (v1 : Int32) : MI y_Machine_isFullFor rm_Machine_isFullFor prog_5_method_17_code 2 .boolean (fun a => [.ref (a v0), .int v1]) (Machine_isFullFor v0 v1) := by
  refine mi_of (by decide) (fun _ => le_ rfl) ?_
  intro k res σ C hR hRm hnL h
  unfold Machine_isFullFor at h
  show WW k 0 [(0, .ref (ad k v0)), (1, .int v1)] [] σ
  refine ww_iload_n C 1 rfl rfl (dq dk_Machine_isFullFor 0 rfl) ?_
  refine ww_bipush C (dq dk_Machine_isFullFor 1 rfl) bp_16 ?_
  refine ww_icmp_ne C 19 (dq dk_Machine_isFullFor 2 rfl) (by decide) h (fun h => ?_) (fun h => ?_)
  · refine ww_iconst C (dq dk_Machine_isFullFor 9 rfl) ic_0 ?_
    exact ww_zretL C hR (dq dk_Machine_isFullFor 10 rfl) (Or.inl rfl) h
  · refine ww_aload_n C 0 rfl rfl (dq dk_Machine_isFullFor 3 rfl) ?_
    refine ww_geti C ko_Machine 13 ho_v0 (lt_ rfl) g_2_88 rfl rfl (dq dk_Machine_isFullFor 4 rfl) ?_
    refine ww_bipush C (dq dk_Machine_isFullFor 5 rfl) bp_100 ?_
    refine ww_icmp_lt C 19 (dq dk_Machine_isFullFor 6 rfl) (by decide) h (fun h => ?_) (fun h => ?_)
    · refine ww_iconst C (dq dk_Machine_isFullFor 9 rfl) ic_0 ?_
      exact ww_zretL C hR (dq dk_Machine_isFullFor 10 rfl) (Or.inl rfl) h
    · refine ww_iconst C (dq dk_Machine_isFullFor 7 rfl) ic_1 ?_
      refine ww_goto C 20 (dq dk_Machine_isFullFor 8 rfl) (by decide) ?_
      exact ww_zretL C hR (dq dk_Machine_isFullFor 10 rfl) (Or.inr rfl) h
abbrev y_Machine_serve : MethodName := ⟨"BundleHouse$Machine", "serve", "(I)V"⟩
def dl_Machine_serve : List (Nat × Instr × Nat) := [(0, .iload_n 1, 1), (1, .bipush 32, 2), (3, .if_icmp .ne 73, 3), (6, .aload_n 0, 1), (7, .getfield 41, 3), (10, .aload_n 0, 1), (11, .getfield 31, 3), (14, .if_icmp .ge 16, 3), (17, .aload_n 0, 1), (18, .getfield 41, 3), (21, .bipush 50, 2), (23, .if_icmp .ge 7, 3), (26, .iconst 1, 1), (27, .goto 4, 3), (30, .iconst 0, 1), (31, .istore_n 2, 1), (32, .aload_n 0, 1), (33, .getfield 18, 3), (36, .iconst 0, 1), (37, .iload_n 2, 1), (38, .ifCond .eq 15, 3), (41, .aload_n 0, 1), (42, .getfield 25, 3), (45, .aload_n 0, 1), (46, .getfield 41, 3), (49, .iaload, 1), (50, .goto 4, 3), (53, .iconst 0, 1), (54, .iastore, 1), (55, .aload_n 0, 1), (56, .dup, 1), (57, .getfield 41, 3), (60, .iload_n 2, 1), (61, .ifCond .eq 7, 3), (64, .iconst 1, 1), (65, .goto 4, 3), (68, .iconst 0, 1), (69, .iadd, 1), (70, .putfield 41, 3), (73, .goto 56, 3), (76, .iload_n 1, 1), (77, .bipush 48, 2), (79, .if_icmp .ne 16, 3), (82, .aload_n 0, 1), (83, .getfield 18, 3), (86, .iconst 0, 1), (87, .aload_n 0, 1), (88, .getfield 44, 3), (91, .iastore, 1), (92, .goto 37, 3), (95, .aload_n 0, 1), (96, .getfield 44, 3), (99, .bipush 100, 2), (101, .if_icmp .ge 28, 3), (104, .aload_n 0, 1), (105, .getfield 28, 3), (108, .aload_n 0, 1), (109, .getfield 44, 3), (112, .aload_n 0, 1), (113, .getfield 18, 3), (116, .iconst 3, 1), (117, .iaload, 1), (118, .iastore, 1), (119, .aload_n 0, 1), (120, .dup, 1), (121, .getfield 44, 3), (124, .iconst 1, 1), (125, .iadd, 1), (126, .putfield 44, 3), (129, .return_, 1)]
set_option maxRecDepth 100000 in
theorem dk_Machine_serve : ∀ q ∈ dl_Machine_serve, decode prog_5_method_18_code q.1 = .ok q.2 := by decide +kernel
abbrev rm_Machine_serve : Room := { frames := 0, cells := 0, slots := 0, locals := 0 }
theorem cw_Machine_serve : CWV y_Machine_serve prog_5_method_18_code 3 none 1 := ⟨⟨g_5_68, g_1_9, by decide, by decide, by decide +kernel⟩, g_5_66, g_5_67⟩
set_option maxHeartbeats 4000000 in
set_option maxRecDepth 100000 in
theorem t_Machine_serve_B54 {k : Cfg} {res : St} (C : Cx k prog_5_method_18_code "BundleHouse$Machine") (hR : RV k res) (hRm : k.2.2.2.1 = rm_Machine_serve) (hnL : k.2.2.2.2.2.2.2.2.2.2.2.1 = 3) (v0 : Nat) (v2 : Int32) (t0 : Nat) (t1 : Int32) (t2 : Int32) (ho_v0 : kd v0 = 8) (σ : St) (h : Machine_serve_B54 v0 v2 t0 t1 t2 σ = some res) : WW k 54 [(0, .ref (ad k v0)), (2, .int v2)] [.int t2, .int t1, .ref (ad k t0)] σ := by
  unfold Machine_serve_B54 at h
  refine ww_srst C (dq dk_Machine_serve 28 rfl) h (fun σ1 h => ?_)
  refine ww_aload_n C 0 rfl rfl (dq dk_Machine_serve 29 rfl) ?_
  refine ww_dup C rfl (dq dk_Machine_serve 30 rfl) ?_
  refine ww_geti C ko_Machine 11 ho_v0 (lt_ rfl) g_2_86 rfl rfl (dq dk_Machine_serve 31 rfl) ?_
  refine ww_iload_n C 1 rfl rfl (dq dk_Machine_serve 32 rfl) ?_
  refine ww_if_eq C 68 (dq dk_Machine_serve 33 rfl) (by decide) h (fun h => ?_) (fun h => ?_)
  · refine ww_iconst C (dq dk_Machine_serve 36 rfl) ic_0 ?_
    refine ww_iadd C (dq dk_Machine_serve 37 rfl) ?_
    refine ww_puti C ko_Machine 11 ho_v0 (lt_ rfl) g_2_86 rfl rfl rfl rfl (dq dk_Machine_serve 38 rfl) h (fun σ2 h => ?_)
    refine ww_goto C 129 (dq dk_Machine_serve 39 rfl) (by decide) ?_
    exact ww_vret C hR (dq dk_Machine_serve 69 rfl) h
  · refine ww_iconst C (dq dk_Machine_serve 34 rfl) ic_1 ?_
    refine ww_goto C 69 (dq dk_Machine_serve 35 rfl) (by decide) ?_
    refine ww_iadd C (dq dk_Machine_serve 37 rfl) ?_
    refine ww_puti C ko_Machine 11 ho_v0 (lt_ rfl) g_2_86 rfl rfl rfl rfl (dq dk_Machine_serve 38 rfl) h (fun σ3 h => ?_)
    refine ww_goto C 129 (dq dk_Machine_serve 39 rfl) (by decide) ?_
    exact ww_vret C hR (dq dk_Machine_serve 69 rfl) h
set_option maxHeartbeats 4000000 in
set_option maxRecDepth 100000 in
theorem t_Machine_serve_B31 {k : Cfg} {res : St} (C : Cx k prog_5_method_18_code "BundleHouse$Machine") (hR : RV k res) (hRm : k.2.2.2.1 = rm_Machine_serve) (hnL : k.2.2.2.2.2.2.2.2.2.2.2.1 = 3) (v0 : Nat) (t0 : Int32) (ho_v0 : kd v0 = 8) (σ : St) (h : Machine_serve_B31 v0 t0 σ = some res) : WW k 31 [(0, .ref (ad k v0))] [.int t0] σ := by
  unfold Machine_serve_B31 at h
  refine ww_istore_n C [(2, .int t0), (0, .ref (ad k v0))] rfl hnL (lt_ rfl) rfl (dq dk_Machine_serve 15 rfl) ?_
  refine ww_aload_n C 1 rfl rfl (dq dk_Machine_serve 16 rfl) ?_
  refine ww_getr C ko_Machine 7 ho_v0 (lt_ rfl) g_2_82 rfl rfl (dq dk_Machine_serve 17 rfl) ?_
  refine ww_iconst C (dq dk_Machine_serve 18 rfl) ic_0 ?_
  refine ww_iload_n C 0 rfl rfl (dq dk_Machine_serve 19 rfl) ?_
  refine ww_if_eq C 53 (dq dk_Machine_serve 20 rfl) (by decide) h (fun h => ?_) (fun h => ?_)
  · refine ww_iconst C (dq dk_Machine_serve 27 rfl) ic_0 ?_
    exact ww_lv [1, 0] rfl (t_Machine_serve_B54 C hR hRm hnL v0 t0 (ch v0 7) 0 0 ho_v0 σ h)
  · refine ww_aload_n C 1 rfl rfl (dq dk_Machine_serve 21 rfl) ?_
    refine ww_getr C ko_Machine 9 ho_v0 (lt_ rfl) g_2_84 rfl rfl (dq dk_Machine_serve 22 rfl) ?_
    refine ww_aload_n C 1 rfl rfl (dq dk_Machine_serve 23 rfl) ?_
    refine ww_geti C ko_Machine 11 ho_v0 (lt_ rfl) g_2_86 rfl rfl (dq dk_Machine_serve 24 rfl) ?_
    refine ww_iald C (kc_Machine_9 _ ho_v0).1 (kc_Machine_9 _ ho_v0).2 (dq dk_Machine_serve 25 rfl) h (fun x1 h => ?_)
    refine ww_goto C 54 (dq dk_Machine_serve 26 rfl) (by decide) ?_
    exact ww_lv [1, 0] rfl (t_Machine_serve_B54 C hR hRm hnL v0 t0 (ch v0 7) 0 x1 ho_v0 σ h)
set_option maxHeartbeats 4000000 in
set_option maxRecDepth 100000 in
theorem c_Machine_serve (v0 : Nat) (ho_v0 : kd v0 = 8) (v1 : Int32) : MV y_Machine_serve rm_Machine_serve prog_5_method_18_code 3 (fun a => [.ref (a v0), .int v1]) (Machine_serve v0 v1) := by
  refine mv_of (by decide) (fun _ => le_ rfl) ?_
  intro k res σ C hR hRm hnL h
  unfold Machine_serve at h
  show WW k 0 [(0, .ref (ad k v0)), (1, .int v1)] [] σ
  refine ww_iload_n C 1 rfl rfl (dq dk_Machine_serve 0 rfl) ?_
  refine ww_bipush C (dq dk_Machine_serve 1 rfl) bp_32 ?_
  refine ww_icmp_ne C 76 (dq dk_Machine_serve 2 rfl) (by decide) h (fun h => ?_) (fun h => ?_)
  · refine ww_iload_n C 1 rfl rfl (dq dk_Machine_serve 40 rfl) ?_
    refine ww_bipush C (dq dk_Machine_serve 41 rfl) bp_48 ?_
    refine ww_icmp_ne C 95 (dq dk_Machine_serve 42 rfl) (by decide) h (fun h => ?_) (fun h => ?_)
    · refine ww_aload_n C 0 rfl rfl (dq dk_Machine_serve 50 rfl) ?_
      refine ww_geti C ko_Machine 13 ho_v0 (lt_ rfl) g_2_88 rfl rfl (dq dk_Machine_serve 51 rfl) ?_
      refine ww_bipush C (dq dk_Machine_serve 52 rfl) bp_100 ?_
      refine ww_icmp_ge C 129 (dq dk_Machine_serve 53 rfl) (by decide) h (fun h => ?_) (fun h => ?_)
      · exact ww_vret C hR (dq dk_Machine_serve 69 rfl) h
      · refine ww_aload_n C 0 rfl rfl (dq dk_Machine_serve 54 rfl) ?_
        refine ww_getr C ko_Machine 12 ho_v0 (lt_ rfl) g_2_87 rfl rfl (dq dk_Machine_serve 55 rfl) ?_
        refine ww_aload_n C 0 rfl rfl (dq dk_Machine_serve 56 rfl) ?_
        refine ww_geti C ko_Machine 13 ho_v0 (lt_ rfl) g_2_88 rfl rfl (dq dk_Machine_serve 57 rfl) ?_
        refine ww_aload_n C 0 rfl rfl (dq dk_Machine_serve 58 rfl) ?_
        refine ww_getr C ko_Machine 7 ho_v0 (lt_ rfl) g_2_82 rfl rfl (dq dk_Machine_serve 59 rfl) ?_
        refine ww_iconst C (dq dk_Machine_serve 60 rfl) ic_3 ?_
        refine ww_iald C (kc_Machine_7 _ ho_v0).1 (kc_Machine_7 _ ho_v0).2 (dq dk_Machine_serve 61 rfl) h (fun x1 h => ?_)
        refine ww_iast C (kc_Machine_12 _ ho_v0).1 (kc_Machine_12 _ ho_v0).2 (dq dk_Machine_serve 62 rfl) h (fun σ2 h => ?_)
        refine ww_aload_n C 0 rfl rfl (dq dk_Machine_serve 63 rfl) ?_
        refine ww_dup C rfl (dq dk_Machine_serve 64 rfl) ?_
        refine ww_geti C ko_Machine 13 ho_v0 (lt_ rfl) g_2_88 rfl rfl (dq dk_Machine_serve 65 rfl) ?_
        refine ww_iconst C (dq dk_Machine_serve 66 rfl) ic_1 ?_
        refine ww_iadd C (dq dk_Machine_serve 67 rfl) ?_
        refine ww_puti C ko_Machine 13 ho_v0 (lt_ rfl) g_2_88 rfl rfl rfl rfl (dq dk_Machine_serve 68 rfl) h (fun σ3 h => ?_)
        exact ww_vret C hR (dq dk_Machine_serve 69 rfl) h
    · refine ww_aload_n C 0 rfl rfl (dq dk_Machine_serve 43 rfl) ?_
      refine ww_getr C ko_Machine 7 ho_v0 (lt_ rfl) g_2_82 rfl rfl (dq dk_Machine_serve 44 rfl) ?_
      refine ww_iconst C (dq dk_Machine_serve 45 rfl) ic_0 ?_
      refine ww_aload_n C 0 rfl rfl (dq dk_Machine_serve 46 rfl) ?_
      refine ww_geti C ko_Machine 13 ho_v0 (lt_ rfl) g_2_88 rfl rfl (dq dk_Machine_serve 47 rfl) ?_
      refine ww_iast C (kc_Machine_7 _ ho_v0).1 (kc_Machine_7 _ ho_v0).2 (dq dk_Machine_serve 48 rfl) h (fun σ4 h => ?_)
      refine ww_goto C 129 (dq dk_Machine_serve 49 rfl) (by decide) ?_
      exact ww_vret C hR (dq dk_Machine_serve 69 rfl) h
  · refine ww_aload_n C 0 rfl rfl (dq dk_Machine_serve 3 rfl) ?_
    refine ww_geti C ko_Machine 11 ho_v0 (lt_ rfl) g_2_86 rfl rfl (dq dk_Machine_serve 4 rfl) ?_
    refine ww_aload_n C 0 rfl rfl (dq dk_Machine_serve 5 rfl) ?_
    refine ww_geti C ko_Machine 10 ho_v0 (lt_ rfl) g_2_85 rfl rfl (dq dk_Machine_serve 6 rfl) ?_
    refine ww_icmp_ge C 30 (dq dk_Machine_serve 7 rfl) (by decide) h (fun h => ?_) (fun h => ?_)
    · refine ww_iconst C (dq dk_Machine_serve 14 rfl) ic_0 ?_
      exact ww_lv [0] rfl (t_Machine_serve_B31 C hR hRm hnL v0 0 ho_v0 σ h)
    · refine ww_aload_n C 0 rfl rfl (dq dk_Machine_serve 8 rfl) ?_
      refine ww_geti C ko_Machine 11 ho_v0 (lt_ rfl) g_2_86 rfl rfl (dq dk_Machine_serve 9 rfl) ?_
      refine ww_bipush C (dq dk_Machine_serve 10 rfl) bp_50 ?_
      refine ww_icmp_ge C 30 (dq dk_Machine_serve 11 rfl) (by decide) h (fun h => ?_) (fun h => ?_)
      · refine ww_iconst C (dq dk_Machine_serve 14 rfl) ic_0 ?_
        exact ww_lv [0] rfl (t_Machine_serve_B31 C hR hRm hnL v0 0 ho_v0 σ h)
      · refine ww_iconst C (dq dk_Machine_serve 12 rfl) ic_1 ?_
        refine ww_goto C 31 (dq dk_Machine_serve 13 rfl) (by decide) ?_
        exact ww_lv [0] rfl (t_Machine_serve_B31 C hR hRm hnL v0 1 ho_v0 σ h)
abbrev y_Machine_addressOf : MethodName := ⟨"BundleHouse$Machine", "addressOf", "(LBundleHouse$Instruction;)I"⟩
def dl_Machine_addressOf : List (Nat × Instr × Nat) := [(0, .aload_n 0, 1), (1, .aload_n 1, 1), (2, .invokevirtual 157, 3), (5, .invokevirtual 82, 3), (8, .aload_n 0, 1), (9, .aload_n 1, 1), (10, .invokevirtual 160, 3), (13, .invokevirtual 82, 3), (16, .aload_n 1, 1), (17, .invokevirtual 173, 3), (20, .ishl, 1), (21, .iadd, 1), (22, .aload_n 1, 1), (23, .getfield 176, 3), (26, .iadd, 1), (27, .ireturn, 1)]
set_option maxRecDepth 100000 in
theorem dk_Machine_addressOf : ∀ q ∈ dl_Machine_addressOf, decode prog_5_method_22_code q.1 = .ok q.2 := by decide +kernel
abbrev rm_Machine_addressOf : Room := { frames := 2, cells := 0, slots := 0, locals := 41 }
theorem cw_Machine_addressOf : CWV y_Machine_addressOf prog_5_method_22_code 2 (some .int) 1 := ⟨⟨g_5_117, g_1_9, by decide, by decide, by decide +kernel⟩, g_5_116, gs_3_10⟩
set_option maxHeartbeats 4000000 in
set_option maxRecDepth 100000 in
theorem c_Machine_addressOf (v0 : Nat) (ho_v0 : kd v0 = 8) (v1 : Nat) (ho_v1 : kd v1 = 4) : MI y_Machine_addressOf rm_Machine_addressOf prog_5_method_22_code 2 .int (fun a => [.ref (a v0), .ref (a v1)]) (Machine_addressOf v0 v1) := by
  refine mi_of (by decide) (fun _ => le_ rfl) ?_
  intro k res σ C hR hRm hnL h
  unfold Machine_addressOf at h
  show WW k 0 [(0, .ref (ad k v0)), (1, .ref (ad k v1))] [] σ
  refine ww_aload_n C 0 rfl rfl (dq dk_Machine_addressOf 0 rfl) ?_
  refine ww_aload_n C 1 rfl rfl (dq dk_Machine_addressOf 1 rfl) ?_
  refine ww_cVi (st := [.ref (ad k v0)]) C (c_Instruction_base v1 ho_v1) cw_Instruction_base ho_v1 (lt_ rfl) rfl g_5_112 hRm ⟨⟨rfl, rfl⟩, le_ rfl, le_ rfl⟩ rfl rfl rfl (le_ rfl) (dq dk_Machine_addressOf 2 rfl) h (fun x2 σ1 h => ?_)
  refine ww_cVi (st := []) C (c_Machine_registerAt v0 ho_v0 x2) cw_Machine_registerAt ho_v0 (lt_ rfl) rfl g_5_118 hRm ⟨⟨rfl, rfl⟩, le_ rfl, le_ rfl⟩ rfl rfl rfl (le_ rfl) (dq dk_Machine_addressOf 3 rfl) h (fun x4 σ3 h => ?_)
  refine ww_aload_n C 0 rfl rfl (dq dk_Machine_addressOf 4 rfl) ?_
  refine ww_aload_n C 1 rfl rfl (dq dk_Machine_addressOf 5 rfl) ?_
  refine ww_cVi (st := [.ref (ad k v0), .int x4]) C (c_Instruction_index v1 ho_v1) cw_Instruction_index ho_v1 (lt_ rfl) rfl g_5_113 hRm ⟨⟨rfl, rfl⟩, le_ rfl, le_ rfl⟩ rfl rfl rfl (le_ rfl) (dq dk_Machine_addressOf 6 rfl) h (fun x6 σ5 h => ?_)
  refine ww_cVi (st := [.int x4]) C (c_Machine_registerAt v0 ho_v0 x6) cw_Machine_registerAt ho_v0 (lt_ rfl) rfl g_5_118 hRm ⟨⟨rfl, rfl⟩, le_ rfl, le_ rfl⟩ rfl rfl rfl (le_ rfl) (dq dk_Machine_addressOf 7 rfl) h (fun x8 σ7 h => ?_)
  refine ww_aload_n C 1 rfl rfl (dq dk_Machine_addressOf 8 rfl) ?_
  refine ww_cVi (st := [.int x8, .int x4]) C (c_Instruction_scale v1 ho_v1) cw_Instruction_scale ho_v1 (lt_ rfl) rfl g_5_119 hRm ⟨⟨rfl, rfl⟩, le_ rfl, le_ rfl⟩ rfl rfl rfl (le_ rfl) (dq dk_Machine_addressOf 9 rfl) h (fun x10 σ9 h => ?_)
  refine ww_ishl C (dq dk_Machine_addressOf 10 rfl) ?_
  refine ww_iadd C (dq dk_Machine_addressOf 11 rfl) ?_
  refine ww_aload_n C 1 rfl rfl (dq dk_Machine_addressOf 12 rfl) ?_
  refine ww_geti C ko_Instruction 4 ho_v1 (lt_ rfl) g_1_96 rfl rfl (dq dk_Machine_addressOf 13 rfl) ?_
  refine ww_iadd C (dq dk_Machine_addressOf 14 rfl) ?_
  exact ww_iret C hR (dq dk_Machine_addressOf 15 rfl) h
abbrev y_Machine_changesWord : MethodName := ⟨"BundleHouse$Machine", "changesWord", "(LBundleHouse$Instruction;)Z"⟩
def dl_Machine_changesWord : List (Nat × Instr × Nat) := [(0, .aload_n 0, 1), (1, .getfield 107, 3), (4, .iconst 4, 1), (5, .if_icmp .eq 21, 3), (8, .aload_n 0, 1), (9, .getfield 107, 3), (12, .bipush 6, 2), (14, .if_icmp .eq 12, 3), (17, .aload_n 0, 1), (18, .getfield 107, 3), (21, .bipush 7, 2), (23, .if_icmp .ne 7, 3), (26, .iconst 1, 1), (27, .goto 4, 3), (30, .iconst 0, 1), (31, .ireturn, 1)]
set_option maxRecDepth 100000 in
theorem dk_Machine_changesWord : ∀ q ∈ dl_Machine_changesWord, decode prog_5_method_23_code q.1 = .ok q.2 := by decide +kernel
abbrev rm_Machine_changesWord : Room := { frames := 0, cells := 0, slots := 0, locals := 0 }
theorem cw_Machine_changesWord : CWS y_Machine_changesWord prog_5_method_23_code 1 (some .boolean) 1 := ⟨⟨g_5_136, g_1_9, by decide, by decide, by decide +kernel⟩, g_5_135⟩
set_option maxHeartbeats 4000000 in
set_option maxRecDepth 100000 in
theorem c_Machine_changesWord (v0 : Nat) (ho_v0 : kd v0 = 4) : MI y_Machine_changesWord rm_Machine_changesWord prog_5_method_23_code 1 .boolean (fun a => [.ref (a v0)]) (Machine_changesWord v0) := by
  refine mi_of (by decide) (fun _ => le_ rfl) ?_
  intro k res σ C hR hRm hnL h
  unfold Machine_changesWord at h
  show WW k 0 [(0, .ref (ad k v0))] [] σ
  refine ww_aload_n C 0 rfl rfl (dq dk_Machine_changesWord 0 rfl) ?_
  refine ww_geti C ko_Instruction 1 ho_v0 (lt_ rfl) g_1_82 rfl rfl (dq dk_Machine_changesWord 1 rfl) ?_
  refine ww_iconst C (dq dk_Machine_changesWord 2 rfl) ic_4 ?_
  refine ww_icmp_eq C 26 (dq dk_Machine_changesWord 3 rfl) (by decide) h (fun h => ?_) (fun h => ?_)
  · refine ww_iconst C (dq dk_Machine_changesWord 12 rfl) ic_1 ?_
    refine ww_goto C 31 (dq dk_Machine_changesWord 13 rfl) (by decide) ?_
    exact ww_zretL C hR (dq dk_Machine_changesWord 15 rfl) (Or.inr rfl) h
  · refine ww_aload_n C 0 rfl rfl (dq dk_Machine_changesWord 4 rfl) ?_
    refine ww_geti C ko_Instruction 1 ho_v0 (lt_ rfl) g_1_82 rfl rfl (dq dk_Machine_changesWord 5 rfl) ?_
    refine ww_bipush C (dq dk_Machine_changesWord 6 rfl) bp_6 ?_
    refine ww_icmp_eq C 26 (dq dk_Machine_changesWord 7 rfl) (by decide) h (fun h => ?_) (fun h => ?_)
    · refine ww_iconst C (dq dk_Machine_changesWord 12 rfl) ic_1 ?_
      refine ww_goto C 31 (dq dk_Machine_changesWord 13 rfl) (by decide) ?_
      exact ww_zretL C hR (dq dk_Machine_changesWord 15 rfl) (Or.inr rfl) h
    · refine ww_aload_n C 0 rfl rfl (dq dk_Machine_changesWord 8 rfl) ?_
      refine ww_geti C ko_Instruction 1 ho_v0 (lt_ rfl) g_1_82 rfl rfl (dq dk_Machine_changesWord 9 rfl) ?_
      refine ww_bipush C (dq dk_Machine_changesWord 10 rfl) bp_7 ?_
      refine ww_icmp_ne C 30 (dq dk_Machine_changesWord 11 rfl) (by decide) h (fun h => ?_) (fun h => ?_)
      · refine ww_iconst C (dq dk_Machine_changesWord 14 rfl) ic_0 ?_
        exact ww_zretL C hR (dq dk_Machine_changesWord 15 rfl) (Or.inl rfl) h
      · refine ww_iconst C (dq dk_Machine_changesWord 12 rfl) ic_1 ?_
        refine ww_goto C 31 (dq dk_Machine_changesWord 13 rfl) (by decide) ?_
        exact ww_zretL C hR (dq dk_Machine_changesWord 15 rfl) (Or.inr rfl) h
abbrev y_Machine_giveLeft : MethodName := ⟨"BundleHouse$Machine", "giveLeft", "(LBundleHouse$Instruction;II)V"⟩
def dl_Machine_giveLeft : List (Nat × Instr × Nat) := [(0, .aload_n 1, 1), (1, .invokestatic 179, 3), (4, .ifCond .eq 12, 3), (7, .aload_n 0, 1), (8, .iload_n 2, 1), (9, .iload_n 3, 1), (10, .invokevirtual 96, 3), (13, .goto 12, 3), (16, .aload_n 0, 1), (17, .aload_n 1, 1), (18, .getfield 134, 3), (21, .iload_n 3, 1), (22, .invokevirtual 137, 3), (25, .return_, 1)]
set_option maxRecDepth 100000 in
theorem dk_Machine_giveLeft : ∀ q ∈ dl_Machine_giveLeft, decode prog_5_method_26_code q.1 = .ok q.2 := by decide +kernel
abbrev rm_Machine_giveLeft : Room := { frames := 2, cells := 0, slots := 0, locals := 42 }
theorem cw_Machine_giveLeft : CWV y_Machine_giveLeft prog_5_method_26_code 4 none 3 := ⟨⟨g_5_133, g_1_9, by decide, by decide, by decide +kernel⟩, g_5_132, gs_3_13⟩
set_option maxHeartbeats 4000000 in
set_option maxRecDepth 100000 in
theorem c_Machine_giveLeft (v0 : Nat) (ho_v0 : kd v0 = 8) (v1 : Nat) (ho_v1 : kd v1 = 4) (v2 : Int32) (v3 : Int32) : MV y_Machine_giveLeft rm_Machine_giveLeft prog_5_method_26_code 4 (fun a => [.ref (a v0), .ref (a v1), .int v2, .int v3]) (Machine_giveLeft v0 v1 v2 v3) := by
  refine mv_of (by decide) (fun _ => le_ rfl) ?_
  intro k res σ C hR hRm hnL h
  unfold Machine_giveLeft at h
  show WW k 0 [(0, .ref (ad k v0)), (1, .ref (ad k v1)), (2, .int v2), (3, .int v3)] [] σ
  refine ww_aload_n C 1 rfl rfl (dq dk_Machine_giveLeft 0 rfl) ?_
  refine ww_cSi (st := []) C (c_Machine_changesWord v1 ho_v1) cw_Machine_changesWord g_5_134 hRm ⟨⟨rfl, rfl⟩, le_ rfl, le_ rfl⟩ rfl rfl rfl (le_ rfl) (dq dk_Machine_giveLeft 1 rfl) h (fun x2 σ1 h => ?_)
  refine ww_if_eq C 16 (dq dk_Machine_giveLeft 2 rfl) (by decide) h (fun h => ?_) (fun h => ?_)
  · refine ww_aload_n C 0 rfl rfl (dq dk_Machine_giveLeft 8 rfl) ?_
    refine ww_aload_n C 1 rfl rfl (dq dk_Machine_giveLeft 9 rfl) ?_
    refine ww_geti C ko_Instruction 2 ho_v1 (lt_ rfl) g_1_88 rfl rfl (dq dk_Machine_giveLeft 10 rfl) ?_
    refine ww_iload_n C 3 rfl rfl (dq dk_Machine_giveLeft 11 rfl) ?_
    refine ww_cVv (st := []) C (c_Machine_give v0 ho_v0 (σ1 v1 2) v3) cw_Machine_give ho_v0 (lt_ rfl) rfl g_5_137 hRm ⟨⟨rfl, rfl⟩, le_ rfl, le_ rfl⟩ rfl rfl rfl (le_ rfl) (dq dk_Machine_giveLeft 12 rfl) h (fun σ3 h => ?_)
    exact ww_vret C hR (dq dk_Machine_giveLeft 13 rfl) h
  · refine ww_aload_n C 0 rfl rfl (dq dk_Machine_giveLeft 3 rfl) ?_
    refine ww_iload_n C 2 rfl rfl (dq dk_Machine_giveLeft 4 rfl) ?_
    refine ww_iload_n C 3 rfl rfl (dq dk_Machine_giveLeft 5 rfl) ?_
    refine ww_cVv (st := []) C (c_Machine_giveWord v0 ho_v0 v2 v3) cw_Machine_giveWord ho_v0 (lt_ rfl) rfl g_5_98 hRm ⟨⟨rfl, rfl⟩, le_ rfl, le_ rfl⟩ rfl rfl rfl (le_ rfl) (dq dk_Machine_giveLeft 6 rfl) h (fun σ4 h => ?_)
    refine ww_goto C 25 (dq dk_Machine_giveLeft 7 rfl) (by decide) ?_
    exact ww_vret C hR (dq dk_Machine_giveLeft 13 rfl) h
abbrev y_Machine_lacksWord : MethodName := ⟨"BundleHouse$Machine", "lacksWord", "(LBundleHouse$Instruction;I)Z"⟩
def dl_Machine_lacksWord : List (Nat × Instr × Nat) := [(0, .aload_n 1, 1), (1, .getfield 123, 3), (4, .bipush 19, 2), (6, .if_icmp .ne 16, 3), (9, .aload_n 0, 1), (10, .invokevirtual 166, 3), (13, .ifCond .ne 7, 3), (16, .iconst 1, 1), (17, .goto 4, 3), (20, .iconst 0, 1), (21, .ireturn, 1), (22, .aload_n 1, 1), (23, .getfield 123, 3), (26, .bipush 20, 2), (28, .if_icmp .ne 16, 3), (31, .aload_n 0, 1), (32, .invokevirtual 170, 3), (35, .ifCond .ne 7, 3), (38, .iconst 1, 1), (39, .goto 4, 3), (42, .iconst 0, 1), (43, .ireturn, 1), (44, .aload_n 1, 1), (45, .getfield 107, 3), (48, .invokestatic 112, 3), (51, .ifCond .eq 23, 3), (54, .aload_n 1, 1), (55, .getfield 123, 3), (58, .bipush 10, 2), (60, .if_icmp .eq 14, 3), (63, .iload_n 2, 1), (64, .invokestatic 93, 3), (67, .ifCond .ne 7, 3), (70, .iconst 1, 1), (71, .goto 4, 3), (74, .iconst 0, 1), (75, .ireturn, 1)]
set_option maxRecDepth 100000 in
theorem dk_Machine_lacksWord : ∀ q ∈ dl_Machine_lacksWord, decode prog_5_method_21_code q.1 = .ok q.2 := by decide +kernel
abbrev rm_Machine_lacksWord : Room := { frames := 2, cells := 0, slots := 0, locals := 40 }
theorem cw_Machine_lacksWord : CWV y_Machine_lacksWord prog_5_method_21_code 3 (some .boolean) 2 := ⟨⟨g_5_123, g_1_9, by decide, by decide, by decide +kernel⟩, g_5_122, gs_3_11⟩
set_option maxHeartbeats 4000000 in
set_option maxRecDepth 100000 in
theorem c_Machine_lacksWord (v0 : Nat) (ho_v0 : kd v0 = 8) (v1 : Nat) (ho_v1 : kd v1 = 4) (v2 : Int32) : MI y_Machine_lacksWord rm_Machine_lacksWord prog_5_method_21_code 3 .boolean (fun a => [.ref (a v0), .ref (a v1), .int v2]) (Machine_lacksWord v0 v1 v2) := by
  refine mi_of (by decide) (fun _ => le_ rfl) ?_
  intro k res σ C hR hRm hnL h
  unfold Machine_lacksWord at h
  show WW k 0 [(0, .ref (ad k v0)), (1, .ref (ad k v1)), (2, .int v2)] [] σ
  refine ww_aload_n C 1 rfl rfl (dq dk_Machine_lacksWord 0 rfl) ?_
  refine ww_geti C ko_Instruction 0 ho_v1 (lt_ rfl) g_1_76 rfl rfl (dq dk_Machine_lacksWord 1 rfl) ?_
  refine ww_bipush C (dq dk_Machine_lacksWord 2 rfl) bp_19 ?_
  refine ww_icmp_ne C 22 (dq dk_Machine_lacksWord 3 rfl) (by decide) h (fun h => ?_) (fun h => ?_)
  · refine ww_aload_n C 1 rfl rfl (dq dk_Machine_lacksWord 11 rfl) ?_
    refine ww_geti C ko_Instruction 0 ho_v1 (lt_ rfl) g_1_76 rfl rfl (dq dk_Machine_lacksWord 12 rfl) ?_
    refine ww_bipush C (dq dk_Machine_lacksWord 13 rfl) bp_20 ?_
    refine ww_icmp_ne C 44 (dq dk_Machine_lacksWord 14 rfl) (by decide) h (fun h => ?_) (fun h => ?_)
    · refine ww_aload_n C 1 rfl rfl (dq dk_Machine_lacksWord 22 rfl) ?_
      refine ww_geti C ko_Instruction 1 ho_v1 (lt_ rfl) g_1_82 rfl rfl (dq dk_Machine_lacksWord 23 rfl) ?_
      refine ww_cNi (st := []) C (c_House_isMemoryForm (σ v1 1)) cw_House_isMemoryForm nw_18 hRm ⟨⟨rfl, rfl⟩, le_ rfl, le_ rfl⟩ rfl rfl rfl (le_ rfl) (dq dk_Machine_lacksWord 24 rfl) h (fun x2 σ1 h => ?_)
      refine ww_if_eq C 74 (dq dk_Machine_lacksWord 25 rfl) (by decide) h (fun h => ?_) (fun h => ?_)
      · refine ww_iconst C (dq dk_Machine_lacksWord 35 rfl) ic_0 ?_
        exact ww_zretL C hR (dq dk_Machine_lacksWord 36 rfl) (Or.inl rfl) h
      · refine ww_aload_n C 1 rfl rfl (dq dk_Machine_lacksWord 26 rfl) ?_
        refine ww_geti C ko_Instruction 0 ho_v1 (lt_ rfl) g_1_76 rfl rfl (dq dk_Machine_lacksWord 27 rfl) ?_
        refine ww_bipush C (dq dk_Machine_lacksWord 28 rfl) bp_10 ?_
        refine ww_icmp_eq C 74 (dq dk_Machine_lacksWord 29 rfl) (by decide) h (fun h => ?_) (fun h => ?_)
        · refine ww_iconst C (dq dk_Machine_lacksWord 35 rfl) ic_0 ?_
          exact ww_zretL C hR (dq dk_Machine_lacksWord 36 rfl) (Or.inl rfl) h
        · refine ww_iload_n C 2 rfl rfl (dq dk_Machine_lacksWord 30 rfl) ?_
          refine ww_cNi (st := []) C (c_House_isWord v2) cw_House_isWord nw_16 hRm ⟨⟨rfl, rfl⟩, le_ rfl, le_ rfl⟩ rfl rfl rfl (le_ rfl) (dq dk_Machine_lacksWord 31 rfl) h (fun x4 σ3 h => ?_)
          refine ww_if_ne C 74 (dq dk_Machine_lacksWord 32 rfl) (by decide) h (fun h => ?_) (fun h => ?_)
          · refine ww_iconst C (dq dk_Machine_lacksWord 35 rfl) ic_0 ?_
            exact ww_zretL C hR (dq dk_Machine_lacksWord 36 rfl) (Or.inl rfl) h
          · refine ww_iconst C (dq dk_Machine_lacksWord 33 rfl) ic_1 ?_
            refine ww_goto C 75 (dq dk_Machine_lacksWord 34 rfl) (by decide) ?_
            exact ww_zretL C hR (dq dk_Machine_lacksWord 36 rfl) (Or.inr rfl) h
    · refine ww_aload_n C 0 rfl rfl (dq dk_Machine_lacksWord 15 rfl) ?_
      refine ww_cVi (st := []) C (c_Machine_canPop v0 ho_v0) cw_Machine_canPop ho_v0 (lt_ rfl) rfl g_5_125 hRm ⟨⟨rfl, rfl⟩, le_ rfl, le_ rfl⟩ rfl rfl rfl (le_ rfl) (dq dk_Machine_lacksWord 16 rfl) h (fun x6 σ5 h => ?_)
      refine ww_if_ne C 42 (dq dk_Machine_lacksWord 17 rfl) (by decide) h (fun h => ?_) (fun h => ?_)
      · refine ww_iconst C (dq dk_Machine_lacksWord 20 rfl) ic_0 ?_
        exact ww_zretL C hR (dq dk_Machine_lacksWord 21 rfl) (Or.inl rfl) h
      · refine ww_iconst C (dq dk_Machine_lacksWord 18 rfl) ic_1 ?_
        refine ww_goto C 43 (dq dk_Machine_lacksWord 19 rfl) (by decide) ?_
        exact ww_zretL C hR (dq dk_Machine_lacksWord 21 rfl) (Or.inr rfl) h
  · refine ww_aload_n C 0 rfl rfl (dq dk_Machine_lacksWord 4 rfl) ?_
    refine ww_cVi (st := []) C (c_Machine_canPush v0 ho_v0) cw_Machine_canPush ho_v0 (lt_ rfl) rfl g_5_124 hRm ⟨⟨rfl, rfl⟩, le_ rfl, le_ rfl⟩ rfl rfl rfl (le_ rfl) (dq dk_Machine_lacksWord 5 rfl) h (fun x8 σ7 h => ?_)
    refine ww_if_ne C 20 (dq dk_Machine_lacksWord 6 rfl) (by decide) h (fun h => ?_) (fun h => ?_)
    · refine ww_iconst C (dq dk_Machine_lacksWord 9 rfl) ic_0 ?_
      exact ww_zretL C hR (dq dk_Machine_lacksWord 10 rfl) (Or.inl rfl) h
    · refine ww_iconst C (dq dk_Machine_lacksWord 7 rfl) ic_1 ?_
      refine ww_goto C 21 (dq dk_Machine_lacksWord 8 rfl) (by decide) ?_
      exact ww_zretL C hR (dq dk_Machine_lacksWord 10 rfl) (Or.inr rfl) h
abbrev y_Machine_leftOf : MethodName := ⟨"BundleHouse$Machine", "leftOf", "(LBundleHouse$Instruction;I)I"⟩
def dl_Machine_leftOf : List (Nat × Instr × Nat) := [(0, .aload_n 1, 1), (1, .invokestatic 179, 3), (4, .ifCond .eq 11, 3), (7, .aload_n 0, 1), (8, .iload_n 2, 1), (9, .invokevirtual 100, 3), (12, .goto 11, 3), (15, .aload_n 0, 1), (16, .aload_n 1, 1), (17, .getfield 134, 3), (20, .invokevirtual 82, 3), (23, .ireturn, 1)]
set_option maxRecDepth 100000 in
theorem dk_Machine_leftOf : ∀ q ∈ dl_Machine_leftOf, decode prog_5_method_24_code q.1 = .ok q.2 := by decide +kernel
abbrev rm_Machine_leftOf : Room := { frames := 2, cells := 0, slots := 0, locals := 41 }
theorem cw_Machine_leftOf : CWV y_Machine_leftOf prog_5_method_24_code 3 (some .int) 2 := ⟨⟨g_5_143, g_1_9, by decide, by decide, by decide +kernel⟩, g_5_142, gs_3_14⟩
set_option maxHeartbeats 4000000 in
set_option maxRecDepth 100000 in
theorem c_Machine_leftOf (v0 : Nat) (ho_v0 : kd v0 = 8) (v1 : Nat) (ho_v1 : kd v1 = 4) (v2 : Int32) : MI y_Machine_leftOf rm_Machine_leftOf prog_5_method_24_code 3 .int (fun a => [.ref (a v0), .ref (a v1), .int v2]) (Machine_leftOf v0 v1 v2) := by
  refine mi_of (by decide) (fun _ => le_ rfl) ?_
  intro k res σ C hR hRm hnL h
  unfold Machine_leftOf at h
  show WW k 0 [(0, .ref (ad k v0)), (1, .ref (ad k v1)), (2, .int v2)] [] σ
  refine ww_aload_n C 1 rfl rfl (dq dk_Machine_leftOf 0 rfl) ?_
  refine ww_cSi (st := []) C (c_Machine_changesWord v1 ho_v1) cw_Machine_changesWord g_5_134 hRm ⟨⟨rfl, rfl⟩, le_ rfl, le_ rfl⟩ rfl rfl rfl (le_ rfl) (dq dk_Machine_leftOf 1 rfl) h (fun x2 σ1 h => ?_)
  refine ww_if_eq C 15 (dq dk_Machine_leftOf 2 rfl) (by decide) h (fun h => ?_) (fun h => ?_)
  · refine ww_aload_n C 0 rfl rfl (dq dk_Machine_leftOf 7 rfl) ?_
    refine ww_aload_n C 1 rfl rfl (dq dk_Machine_leftOf 8 rfl) ?_
    refine ww_geti C ko_Instruction 2 ho_v1 (lt_ rfl) g_1_88 rfl rfl (dq dk_Machine_leftOf 9 rfl) ?_
    refine ww_cVi (st := []) C (c_Machine_registerAt v0 ho_v0 (σ1 v1 2)) cw_Machine_registerAt ho_v0 (lt_ rfl) rfl g_5_118 hRm ⟨⟨rfl, rfl⟩, le_ rfl, le_ rfl⟩ rfl rfl rfl (le_ rfl) (dq dk_Machine_leftOf 10 rfl) h (fun x4 σ3 h => ?_)
    exact ww_iret C hR (dq dk_Machine_leftOf 11 rfl) h
  · refine ww_aload_n C 0 rfl rfl (dq dk_Machine_leftOf 3 rfl) ?_
    refine ww_iload_n C 2 rfl rfl (dq dk_Machine_leftOf 4 rfl) ?_
    refine ww_cVi (st := []) C (c_Machine_wordAt v0 ho_v0 v2) cw_Machine_wordAt ho_v0 (lt_ rfl) rfl g_5_73 hRm ⟨⟨rfl, rfl⟩, le_ rfl, le_ rfl⟩ rfl rfl rfl (le_ rfl) (dq dk_Machine_leftOf 5 rfl) h (fun x6 σ5 h => ?_)
    refine ww_goto C 23 (dq dk_Machine_leftOf 6 rfl) (by decide) ?_
    exact ww_iret C hR (dq dk_Machine_leftOf 11 rfl) h
abbrev y_Machine_readsUnknown : MethodName := ⟨"BundleHouse$Machine", "readsUnknown", "(LBundleHouse$Instruction;)Z"⟩
def dl_Machine_readsUnknown : List (Nat × Instr × Nat) := [(0, .aload_n 1, 1), (1, .getfield 123, 3), (4, .iconst 2, 1), (5, .if_icmp .eq 11, 3), (8, .aload_n 1, 1), (9, .getfield 123, 3), (12, .iconst 3, 1), (13, .if_icmp .ne 16, 3), (16, .aload_n 0, 1), (17, .getfield 12, 3), (20, .getfield 70, 3), (23, .iconst 2, 1), (24, .if_icmp .ne 5, 3), (27, .iconst 1, 1), (28, .ireturn, 1), (29, .aload_n 0, 1), (30, .getfield 51, 3), (33, .ifCond .ne 5, 3), (36, .iconst 0, 1), (37, .ireturn, 1), (38, .aload_n 1, 1), (39, .getfield 107, 3), (42, .invokestatic 112, 3), (45, .ifCond .eq 21, 3), (48, .aload_n 1, 1), (49, .invokevirtual 157, 3), (52, .iconst 1, 1), (53, .if_icmp .eq 11, 3), (56, .aload_n 1, 1), (57, .invokevirtual 160, 3), (60, .iconst 1, 1), (61, .if_icmp .ne 5, 3), (64, .iconst 1, 1), (65, .ireturn, 1), (66, .aload_n 1, 1), (67, .getfield 107, 3), (70, .iconst 2, 1), (71, .if_icmp .ne 13, 3), (74, .aload_n 1, 1), (75, .getfield 163, 3), (78, .iconst 1, 1), (79, .if_icmp .ne 5, 3), (82, .iconst 1, 1), (83, .ireturn, 1), (84, .aload_n 1, 1), (85, .getfield 107, 3), (88, .iconst 1, 1), (89, .if_icmp .lt 23, 3), (92, .aload_n 1, 1), (93, .getfield 107, 3), (96, .iconst 5, 1), (97, .if_icmp .gt 15, 3), (100, .aload_n 1, 1), (101, .getfield 134, 3), (104, .iconst 1, 1), (105, .if_icmp .ne 7, 3), (108, .iconst 1, 1), (109, .goto 4, 3), (112, .iconst 0, 1), (113, .istore_n 2, 1), (114, .aload_n 1, 1), (115, .getfield 123, 3), (118, .bipush 10, 2), (120, .if_icmp .eq 29, 3), (123, .aload_n 1, 1), (124, .getfield 123, 3), (127, .bipush 20, 2), (129, .if_icmp .eq 20, 3), (132, .aload_n 1, 1), (133, .getfield 123, 3), (136, .bipush 8, 2), (138, .if_icmp .ne 15, 3), (141, .aload_n 1, 1), (142, .getfield 107, 3), (145, .iconst 4, 1), (146, .if_icmp .eq 7, 3), (149, .iconst 1, 1), (150, .goto 4, 3), (153, .iconst 0, 1), (154, .istore_n 3, 1), (155, .iload_n 2, 1), (156, .ifCond .eq 11, 3), (159, .iload_n 3, 1), (160, .ifCond .ne 7, 3), (163, .iconst 1, 1), (164, .goto 4, 3), (167, .iconst 0, 1), (168, .ireturn, 1)]
set_option maxRecDepth 100000 in
theorem dk_Machine_readsUnknown : ∀ q ∈ dl_Machine_readsUnknown, decode prog_5_method_20_code q.1 = .ok q.2 := by decide +kernel
abbrev rm_Machine_readsUnknown : Room := { frames := 1, cells := 0, slots := 0, locals := 20 }
theorem cw_Machine_readsUnknown : CWV y_Machine_readsUnknown prog_5_method_20_code 4 (some .boolean) 1 := ⟨⟨g_5_110, g_1_9, by decide, by decide, by decide +kernel⟩, g_5_109, gs_3_9⟩
set_option maxHeartbeats 4000000 in
set_option maxRecDepth 100000 in
theorem t_Machine_readsUnknown_B113 {k : Cfg} {res : Int32 × St} (C : Cx k prog_5_method_20_code "BundleHouse$Machine") (hR : RI k .boolean res) (hRm : k.2.2.2.1 = rm_Machine_readsUnknown) (hnL : k.2.2.2.2.2.2.2.2.2.2.2.1 = 4) (v1 : Nat) (t0 : Int32) (ho_v1 : kd v1 = 4) (σ : St) (h : Machine_readsUnknown_B113 v1 t0 σ = some res) : WW k 113 [(1, .ref (ad k v1))] [.int t0] σ := by
  unfold Machine_readsUnknown_B113 at h
  refine ww_istore_n C [(2, .int t0), (1, .ref (ad k v1))] rfl hnL (lt_ rfl) rfl (dq dk_Machine_readsUnknown 59 rfl) ?_
  refine ww_aload_n C 1 rfl rfl (dq dk_Machine_readsUnknown 60 rfl) ?_
  refine ww_geti C ko_Instruction 0 ho_v1 (lt_ rfl) g_1_76 rfl rfl (dq dk_Machine_readsUnknown 61 rfl) ?_
  refine ww_bipush C (dq dk_Machine_readsUnknown 62 rfl) bp_10 ?_
  refine ww_icmp_eq C 149 (dq dk_Machine_readsUnknown 63 rfl) (by decide) h (fun h => ?_) (fun h => ?_)
  · refine ww_iconst C (dq dk_Machine_readsUnknown 76 rfl) ic_1 ?_
    refine ww_goto C 154 (dq dk_Machine_readsUnknown 77 rfl) (by decide) ?_
    refine ww_istore_n C [(3, .int 1), (2, .int t0), (1, .ref (ad k v1))] rfl hnL (lt_ rfl) rfl (dq dk_Machine_readsUnknown 79 rfl) ?_
    refine ww_iload_n C 1 rfl rfl (dq dk_Machine_readsUnknown 80 rfl) ?_
    refine ww_if_eq C 167 (dq dk_Machine_readsUnknown 81 rfl) (by decide) h (fun h => ?_) (fun h => ?_)
    · refine ww_iconst C (dq dk_Machine_readsUnknown 86 rfl) ic_0 ?_
      exact ww_zretL C hR (dq dk_Machine_readsUnknown 87 rfl) (Or.inl rfl) h
    · refine ww_iload_n C 0 rfl rfl (dq dk_Machine_readsUnknown 82 rfl) ?_
      refine ww_if_ne C 167 (dq dk_Machine_readsUnknown 83 rfl) (by decide) (ift (by decide) h) (fun h => ?_) (fun h => by cases h)
      refine ww_iconst C (dq dk_Machine_readsUnknown 86 rfl) ic_0 ?_
      exact ww_zretL C hR (dq dk_Machine_readsUnknown 87 rfl) (Or.inl rfl) h
  · refine ww_aload_n C 1 rfl rfl (dq dk_Machine_readsUnknown 64 rfl) ?_
    refine ww_geti C ko_Instruction 0 ho_v1 (lt_ rfl) g_1_76 rfl rfl (dq dk_Machine_readsUnknown 65 rfl) ?_
    refine ww_bipush C (dq dk_Machine_readsUnknown 66 rfl) bp_20 ?_
    refine ww_icmp_eq C 149 (dq dk_Machine_readsUnknown 67 rfl) (by decide) h (fun h => ?_) (fun h => ?_)
    · refine ww_iconst C (dq dk_Machine_readsUnknown 76 rfl) ic_1 ?_
      refine ww_goto C 154 (dq dk_Machine_readsUnknown 77 rfl) (by decide) ?_
      refine ww_istore_n C [(3, .int 1), (2, .int t0), (1, .ref (ad k v1))] rfl hnL (lt_ rfl) rfl (dq dk_Machine_readsUnknown 79 rfl) ?_
      refine ww_iload_n C 1 rfl rfl (dq dk_Machine_readsUnknown 80 rfl) ?_
      refine ww_if_eq C 167 (dq dk_Machine_readsUnknown 81 rfl) (by decide) h (fun h => ?_) (fun h => ?_)
      · refine ww_iconst C (dq dk_Machine_readsUnknown 86 rfl) ic_0 ?_
        exact ww_zretL C hR (dq dk_Machine_readsUnknown 87 rfl) (Or.inl rfl) h
      · refine ww_iload_n C 0 rfl rfl (dq dk_Machine_readsUnknown 82 rfl) ?_
        refine ww_if_ne C 167 (dq dk_Machine_readsUnknown 83 rfl) (by decide) (ift (by decide) h) (fun h => ?_) (fun h => by cases h)
        refine ww_iconst C (dq dk_Machine_readsUnknown 86 rfl) ic_0 ?_
        exact ww_zretL C hR (dq dk_Machine_readsUnknown 87 rfl) (Or.inl rfl) h
    · refine ww_aload_n C 1 rfl rfl (dq dk_Machine_readsUnknown 68 rfl) ?_
      refine ww_geti C ko_Instruction 0 ho_v1 (lt_ rfl) g_1_76 rfl rfl (dq dk_Machine_readsUnknown 69 rfl) ?_
      refine ww_bipush C (dq dk_Machine_readsUnknown 70 rfl) bp_8 ?_
      refine ww_icmp_ne C 153 (dq dk_Machine_readsUnknown 71 rfl) (by decide) h (fun h => ?_) (fun h => ?_)
      · refine ww_iconst C (dq dk_Machine_readsUnknown 78 rfl) ic_0 ?_
        refine ww_istore_n C [(3, .int 0), (2, .int t0), (1, .ref (ad k v1))] rfl hnL (lt_ rfl) rfl (dq dk_Machine_readsUnknown 79 rfl) ?_
        refine ww_iload_n C 1 rfl rfl (dq dk_Machine_readsUnknown 80 rfl) ?_
        refine ww_if_eq C 167 (dq dk_Machine_readsUnknown 81 rfl) (by decide) h (fun h => ?_) (fun h => ?_)
        · refine ww_iconst C (dq dk_Machine_readsUnknown 86 rfl) ic_0 ?_
          exact ww_zretL C hR (dq dk_Machine_readsUnknown 87 rfl) (Or.inl rfl) h
        · refine ww_iload_n C 0 rfl rfl (dq dk_Machine_readsUnknown 82 rfl) ?_
          refine ww_if_ne C 167 (dq dk_Machine_readsUnknown 83 rfl) (by decide) (ifn (by decide) h) (fun h => by cases h) (fun h => ?_)
          refine ww_iconst C (dq dk_Machine_readsUnknown 84 rfl) ic_1 ?_
          refine ww_goto C 168 (dq dk_Machine_readsUnknown 85 rfl) (by decide) ?_
          exact ww_zretL C hR (dq dk_Machine_readsUnknown 87 rfl) (Or.inr rfl) h
      · refine ww_aload_n C 1 rfl rfl (dq dk_Machine_readsUnknown 72 rfl) ?_
        refine ww_geti C ko_Instruction 1 ho_v1 (lt_ rfl) g_1_82 rfl rfl (dq dk_Machine_readsUnknown 73 rfl) ?_
        refine ww_iconst C (dq dk_Machine_readsUnknown 74 rfl) ic_4 ?_
        refine ww_icmp_eq C 153 (dq dk_Machine_readsUnknown 75 rfl) (by decide) h (fun h => ?_) (fun h => ?_)
        · refine ww_iconst C (dq dk_Machine_readsUnknown 78 rfl) ic_0 ?_
          refine ww_istore_n C [(3, .int 0), (2, .int t0), (1, .ref (ad k v1))] rfl hnL (lt_ rfl) rfl (dq dk_Machine_readsUnknown 79 rfl) ?_
          refine ww_iload_n C 1 rfl rfl (dq dk_Machine_readsUnknown 80 rfl) ?_
          refine ww_if_eq C 167 (dq dk_Machine_readsUnknown 81 rfl) (by decide) h (fun h => ?_) (fun h => ?_)
          · refine ww_iconst C (dq dk_Machine_readsUnknown 86 rfl) ic_0 ?_
            exact ww_zretL C hR (dq dk_Machine_readsUnknown 87 rfl) (Or.inl rfl) h
          · refine ww_iload_n C 0 rfl rfl (dq dk_Machine_readsUnknown 82 rfl) ?_
            refine ww_if_ne C 167 (dq dk_Machine_readsUnknown 83 rfl) (by decide) (ifn (by decide) h) (fun h => by cases h) (fun h => ?_)
            refine ww_iconst C (dq dk_Machine_readsUnknown 84 rfl) ic_1 ?_
            refine ww_goto C 168 (dq dk_Machine_readsUnknown 85 rfl) (by decide) ?_
            exact ww_zretL C hR (dq dk_Machine_readsUnknown 87 rfl) (Or.inr rfl) h
        · refine ww_iconst C (dq dk_Machine_readsUnknown 76 rfl) ic_1 ?_
          refine ww_goto C 154 (dq dk_Machine_readsUnknown 77 rfl) (by decide) ?_
          refine ww_istore_n C [(3, .int 1), (2, .int t0), (1, .ref (ad k v1))] rfl hnL (lt_ rfl) rfl (dq dk_Machine_readsUnknown 79 rfl) ?_
          refine ww_iload_n C 1 rfl rfl (dq dk_Machine_readsUnknown 80 rfl) ?_
          refine ww_if_eq C 167 (dq dk_Machine_readsUnknown 81 rfl) (by decide) h (fun h => ?_) (fun h => ?_)
          · refine ww_iconst C (dq dk_Machine_readsUnknown 86 rfl) ic_0 ?_
            exact ww_zretL C hR (dq dk_Machine_readsUnknown 87 rfl) (Or.inl rfl) h
          · refine ww_iload_n C 0 rfl rfl (dq dk_Machine_readsUnknown 82 rfl) ?_
            refine ww_if_ne C 167 (dq dk_Machine_readsUnknown 83 rfl) (by decide) (ift (by decide) h) (fun h => ?_) (fun h => by cases h)
            refine ww_iconst C (dq dk_Machine_readsUnknown 86 rfl) ic_0 ?_
            exact ww_zretL C hR (dq dk_Machine_readsUnknown 87 rfl) (Or.inl rfl) h
set_option maxHeartbeats 4000000 in
set_option maxRecDepth 100000 in
theorem t_Machine_readsUnknown_B84 {k : Cfg} {res : Int32 × St} (C : Cx k prog_5_method_20_code "BundleHouse$Machine") (hR : RI k .boolean res) (hRm : k.2.2.2.1 = rm_Machine_readsUnknown) (hnL : k.2.2.2.2.2.2.2.2.2.2.2.1 = 4) (v1 : Nat) (ho_v1 : kd v1 = 4) (σ : St) (h : Machine_readsUnknown_B84 v1 σ = some res) : WW k 84 [(1, .ref (ad k v1))] [] σ := by
  unfold Machine_readsUnknown_B84 at h
  refine ww_aload_n C 0 rfl rfl (dq dk_Machine_readsUnknown 44 rfl) ?_
  refine ww_geti C ko_Instruction 1 ho_v1 (lt_ rfl) g_1_82 rfl rfl (dq dk_Machine_readsUnknown 45 rfl) ?_
  refine ww_iconst C (dq dk_Machine_readsUnknown 46 rfl) ic_1 ?_
  refine ww_icmp_lt C 112 (dq dk_Machine_readsUnknown 47 rfl) (by decide) h (fun h => ?_) (fun h => ?_)
  · refine ww_iconst C (dq dk_Machine_readsUnknown 58 rfl) ic_0 ?_
    exact ww_lv [0] rfl (t_Machine_readsUnknown_B113 C hR hRm hnL v1 0 ho_v1 σ h)
  · refine ww_aload_n C 0 rfl rfl (dq dk_Machine_readsUnknown 48 rfl) ?_
    refine ww_geti C ko_Instruction 1 ho_v1 (lt_ rfl) g_1_82 rfl rfl (dq dk_Machine_readsUnknown 49 rfl) ?_
    refine ww_iconst C (dq dk_Machine_readsUnknown 50 rfl) ic_5 ?_
    refine ww_icmp_gt C 112 (dq dk_Machine_readsUnknown 51 rfl) (by decide) h (fun h => ?_) (fun h => ?_)
    · refine ww_iconst C (dq dk_Machine_readsUnknown 58 rfl) ic_0 ?_
      exact ww_lv [0] rfl (t_Machine_readsUnknown_B113 C hR hRm hnL v1 0 ho_v1 σ h)
    · refine ww_aload_n C 0 rfl rfl (dq dk_Machine_readsUnknown 52 rfl) ?_
      refine ww_geti C ko_Instruction 2 ho_v1 (lt_ rfl) g_1_88 rfl rfl (dq dk_Machine_readsUnknown 53 rfl) ?_
      refine ww_iconst C (dq dk_Machine_readsUnknown 54 rfl) ic_1 ?_
      refine ww_icmp_ne C 112 (dq dk_Machine_readsUnknown 55 rfl) (by decide) h (fun h => ?_) (fun h => ?_)
      · refine ww_iconst C (dq dk_Machine_readsUnknown 58 rfl) ic_0 ?_
        exact ww_lv [0] rfl (t_Machine_readsUnknown_B113 C hR hRm hnL v1 0 ho_v1 σ h)
      · refine ww_iconst C (dq dk_Machine_readsUnknown 56 rfl) ic_1 ?_
        refine ww_goto C 113 (dq dk_Machine_readsUnknown 57 rfl) (by decide) ?_
        exact ww_lv [0] rfl (t_Machine_readsUnknown_B113 C hR hRm hnL v1 1 ho_v1 σ h)
set_option maxHeartbeats 4000000 in
set_option maxRecDepth 100000 in
theorem t_Machine_readsUnknown_B66 {k : Cfg} {res : Int32 × St} (C : Cx k prog_5_method_20_code "BundleHouse$Machine") (hR : RI k .boolean res) (hRm : k.2.2.2.1 = rm_Machine_readsUnknown) (hnL : k.2.2.2.2.2.2.2.2.2.2.2.1 = 4) (v1 : Nat) (ho_v1 : kd v1 = 4) (σ : St) (h : Machine_readsUnknown_B66 v1 σ = some res) : WW k 66 [(1, .ref (ad k v1))] [] σ := by
  unfold Machine_readsUnknown_B66 at h
  refine ww_aload_n C 0 rfl rfl (dq dk_Machine_readsUnknown 34 rfl) ?_
  refine ww_geti C ko_Instruction 1 ho_v1 (lt_ rfl) g_1_82 rfl rfl (dq dk_Machine_readsUnknown 35 rfl) ?_
  refine ww_iconst C (dq dk_Machine_readsUnknown 36 rfl) ic_2 ?_
  refine ww_icmp_ne C 84 (dq dk_Machine_readsUnknown 37 rfl) (by decide) h (fun h => ?_) (fun h => ?_)
  · exact ww_lv [0] rfl (t_Machine_readsUnknown_B84 C hR hRm hnL v1 ho_v1 σ h)
  · refine ww_aload_n C 0 rfl rfl (dq dk_Machine_readsUnknown 38 rfl) ?_
    refine ww_geti C ko_Instruction 3 ho_v1 (lt_ rfl) g_1_92 rfl rfl (dq dk_Machine_readsUnknown 39 rfl) ?_
    refine ww_iconst C (dq dk_Machine_readsUnknown 40 rfl) ic_1 ?_
    refine ww_icmp_ne C 84 (dq dk_Machine_readsUnknown 41 rfl) (by decide) h (fun h => ?_) (fun h => ?_)
    · exact ww_lv [0] rfl (t_Machine_readsUnknown_B84 C hR hRm hnL v1 ho_v1 σ h)
    · refine ww_iconst C (dq dk_Machine_readsUnknown 42 rfl) ic_1 ?_
      exact ww_zretL C hR (dq dk_Machine_readsUnknown 43 rfl) (Or.inr rfl) h
set_option maxHeartbeats 4000000 in
set_option maxRecDepth 100000 in
theorem t_Machine_readsUnknown_B29 {k : Cfg} {res : Int32 × St} (C : Cx k prog_5_method_20_code "BundleHouse$Machine") (hR : RI k .boolean res) (hRm : k.2.2.2.1 = rm_Machine_readsUnknown) (hnL : k.2.2.2.2.2.2.2.2.2.2.2.1 = 4) (v0 : Nat) (v1 : Nat) (ho_v0 : kd v0 = 8) (ho_v1 : kd v1 = 4) (σ : St) (h : Machine_readsUnknown_B29 v0 v1 σ = some res) : WW k 29 [(0, .ref (ad k v0)), (1, .ref (ad k v1))] [] σ := by
  unfold Machine_readsUnknown_B29 at h
  refine ww_aload_n C 0 rfl rfl (dq dk_Machine_readsUnknown 15 rfl) ?_
  refine ww_geti C ko_Machine 5 ho_v0 (lt_ rfl) g_2_78 rfl rfl (dq dk_Machine_readsUnknown 16 rfl) ?_
  refine ww_if_ne C 38 (dq dk_Machine_readsUnknown 17 rfl) (by decide) h (fun h => ?_) (fun h => ?_)
  · refine ww_aload_n C 1 rfl rfl (dq dk_Machine_readsUnknown 20 rfl) ?_
    refine ww_geti C ko_Instruction 1 ho_v1 (lt_ rfl) g_1_82 rfl rfl (dq dk_Machine_readsUnknown 21 rfl) ?_
    refine ww_cNi (st := []) C (c_House_isMemoryForm (σ v1 1)) cw_House_isMemoryForm nw_18 hRm ⟨⟨rfl, rfl⟩, le_ rfl, le_ rfl⟩ rfl rfl rfl (le_ rfl) (dq dk_Machine_readsUnknown 22 rfl) h (fun x2 σ1 h => ?_)
    refine ww_if_eq C 66 (dq dk_Machine_readsUnknown 23 rfl) (by decide) h (fun h => ?_) (fun h => ?_)
    · exact ww_lv [1] rfl (t_Machine_readsUnknown_B66 C hR hRm hnL v1 ho_v1 σ1 h)
    · refine ww_aload_n C 1 rfl rfl (dq dk_Machine_readsUnknown 24 rfl) ?_
      refine ww_cVi (st := []) C (c_Instruction_base v1 ho_v1) cw_Instruction_base ho_v1 (lt_ rfl) rfl g_5_112 hRm ⟨⟨rfl, rfl⟩, le_ rfl, le_ rfl⟩ rfl rfl rfl (le_ rfl) (dq dk_Machine_readsUnknown 25 rfl) h (fun x4 σ3 h => ?_)
      refine ww_iconst C (dq dk_Machine_readsUnknown 26 rfl) ic_1 ?_
      refine ww_icmp_eq C 64 (dq dk_Machine_readsUnknown 27 rfl) (by decide) h (fun h => ?_) (fun h => ?_)
      · refine ww_iconst C (dq dk_Machine_readsUnknown 32 rfl) ic_1 ?_
        exact ww_zretL C hR (dq dk_Machine_readsUnknown 33 rfl) (Or.inr rfl) h
      · refine ww_aload_n C 1 rfl rfl (dq dk_Machine_readsUnknown 28 rfl) ?_
        refine ww_cVi (st := []) C (c_Instruction_index v1 ho_v1) cw_Instruction_index ho_v1 (lt_ rfl) rfl g_5_113 hRm ⟨⟨rfl, rfl⟩, le_ rfl, le_ rfl⟩ rfl rfl rfl (le_ rfl) (dq dk_Machine_readsUnknown 29 rfl) h (fun x6 σ5 h => ?_)
        refine ww_iconst C (dq dk_Machine_readsUnknown 30 rfl) ic_1 ?_
        refine ww_icmp_ne C 66 (dq dk_Machine_readsUnknown 31 rfl) (by decide) h (fun h => ?_) (fun h => ?_)
        · exact ww_lv [1] rfl (t_Machine_readsUnknown_B66 C hR hRm hnL v1 ho_v1 σ5 h)
        · refine ww_iconst C (dq dk_Machine_readsUnknown 32 rfl) ic_1 ?_
          exact ww_zretL C hR (dq dk_Machine_readsUnknown 33 rfl) (Or.inr rfl) h
  · refine ww_iconst C (dq dk_Machine_readsUnknown 18 rfl) ic_0 ?_
    exact ww_zretL C hR (dq dk_Machine_readsUnknown 19 rfl) (Or.inl rfl) h
set_option maxHeartbeats 4000000 in
set_option maxRecDepth 100000 in
theorem c_Machine_readsUnknown (v0 : Nat) (ho_v0 : kd v0 = 8) (v1 : Nat) (ho_v1 : kd v1 = 4) : MI y_Machine_readsUnknown rm_Machine_readsUnknown prog_5_method_20_code 4 .boolean (fun a => [.ref (a v0), .ref (a v1)]) (Machine_readsUnknown v0 v1) := by
  refine mi_of (by decide) (fun _ => le_ rfl) ?_
  intro k res σ C hR hRm hnL h
  unfold Machine_readsUnknown at h
  show WW k 0 [(0, .ref (ad k v0)), (1, .ref (ad k v1))] [] σ
  refine ww_aload_n C 1 rfl rfl (dq dk_Machine_readsUnknown 0 rfl) ?_
  refine ww_geti C ko_Instruction 0 ho_v1 (lt_ rfl) g_1_76 rfl rfl (dq dk_Machine_readsUnknown 1 rfl) ?_
  refine ww_iconst C (dq dk_Machine_readsUnknown 2 rfl) ic_2 ?_
  refine ww_icmp_eq C 16 (dq dk_Machine_readsUnknown 3 rfl) (by decide) h (fun h => ?_) (fun h => ?_)
  · refine ww_aload_n C 0 rfl rfl (dq dk_Machine_readsUnknown 8 rfl) ?_
    refine ww_getr C ko_Machine 0 ho_v0 (lt_ rfl) g_2_64 rfl rfl (dq dk_Machine_readsUnknown 9 rfl) ?_
    refine ww_geti C ko_Flags 0 (kc_Machine_0 _ ho_v0) (lt_ rfl) g_2_48 rfl rfl (dq dk_Machine_readsUnknown 10 rfl) ?_
    refine ww_iconst C (dq dk_Machine_readsUnknown 11 rfl) ic_2 ?_
    refine ww_icmp_ne C 29 (dq dk_Machine_readsUnknown 12 rfl) (by decide) h (fun h => ?_) (fun h => ?_)
    · exact ww_lv [0, 1] rfl (t_Machine_readsUnknown_B29 C hR hRm hnL v0 v1 ho_v0 ho_v1 σ h)
    · refine ww_iconst C (dq dk_Machine_readsUnknown 13 rfl) ic_1 ?_
      exact ww_zretL C hR (dq dk_Machine_readsUnknown 14 rfl) (Or.inr rfl) h
  · refine ww_aload_n C 1 rfl rfl (dq dk_Machine_readsUnknown 4 rfl) ?_
    refine ww_geti C ko_Instruction 0 ho_v1 (lt_ rfl) g_1_76 rfl rfl (dq dk_Machine_readsUnknown 5 rfl) ?_
    refine ww_iconst C (dq dk_Machine_readsUnknown 6 rfl) ic_3 ?_
    refine ww_icmp_ne C 29 (dq dk_Machine_readsUnknown 7 rfl) (by decide) h (fun h => ?_) (fun h => ?_)
    · exact ww_lv [0, 1] rfl (t_Machine_readsUnknown_B29 C hR hRm hnL v0 v1 ho_v0 ho_v1 σ h)
    · refine ww_aload_n C 0 rfl rfl (dq dk_Machine_readsUnknown 8 rfl) ?_
      refine ww_getr C ko_Machine 0 ho_v0 (lt_ rfl) g_2_64 rfl rfl (dq dk_Machine_readsUnknown 9 rfl) ?_
      refine ww_geti C ko_Flags 0 (kc_Machine_0 _ ho_v0) (lt_ rfl) g_2_48 rfl rfl (dq dk_Machine_readsUnknown 10 rfl) ?_
      refine ww_iconst C (dq dk_Machine_readsUnknown 11 rfl) ic_2 ?_
      refine ww_icmp_ne C 29 (dq dk_Machine_readsUnknown 12 rfl) (by decide) h (fun h => ?_) (fun h => ?_)
      · exact ww_lv [0, 1] rfl (t_Machine_readsUnknown_B29 C hR hRm hnL v0 v1 ho_v0 ho_v1 σ h)
      · refine ww_iconst C (dq dk_Machine_readsUnknown 13 rfl) ic_1 ?_
        exact ww_zretL C hR (dq dk_Machine_readsUnknown 14 rfl) (Or.inr rfl) h
abbrev y_Machine_rightOf : MethodName := ⟨"BundleHouse$Machine", "rightOf", "(LBundleHouse$Instruction;I)I"⟩
def dl_Machine_rightOf : List (Nat × Instr × Nat) := [(0, .aload_n 1, 1), (1, .getfield 107, 3), (4, .tableswitch 52 2 4 #[28, 37, 43], 28), (32, .aload_n 0, 1), (33, .aload_n 1, 1), (34, .getfield 163, 3), (37, .invokevirtual 82, 3), (40, .ireturn, 1), (41, .aload_n 0, 1), (42, .iload_n 2, 1), (43, .invokevirtual 100, 3), (46, .ireturn, 1), (47, .aload_n 0, 1), (48, .aload_n 1, 1), (49, .getfield 134, 3), (52, .invokevirtual 82, 3), (55, .ireturn, 1), (56, .aload_n 1, 1), (57, .getfield 140, 3), (60, .ireturn, 1)]
set_option maxRecDepth 100000 in
theorem dk_Machine_rightOf : ∀ q ∈ dl_Machine_rightOf, decode prog_5_method_25_code q.1 = .ok q.2 := by decide +kernel
abbrev rm_Machine_rightOf : Room := { frames := 2, cells := 0, slots := 0, locals := 41 }
theorem cw_Machine_rightOf : CWV y_Machine_rightOf prog_5_method_25_code 3 (some .int) 2 := ⟨⟨g_5_129, g_1_9, by decide, by decide, by decide +kernel⟩, g_5_128, gs_3_12⟩
set_option maxHeartbeats 4000000 in
set_option maxRecDepth 100000 in
theorem c_Machine_rightOf (v0 : Nat) (ho_v0 : kd v0 = 8) (v1 : Nat) (ho_v1 : kd v1 = 4) (v2 : Int32) : MI y_Machine_rightOf rm_Machine_rightOf prog_5_method_25_code 3 .int (fun a => [.ref (a v0), .ref (a v1), .int v2]) (Machine_rightOf v0 v1 v2) := by
  refine mi_of (by decide) (fun _ => le_ rfl) ?_
  intro k res σ C hR hRm hnL h
  unfold Machine_rightOf at h
  show WW k 0 [(0, .ref (ad k v0)), (1, .ref (ad k v1)), (2, .int v2)] [] σ
  refine ww_aload_n C 1 rfl rfl (dq dk_Machine_rightOf 0 rfl) ?_
  refine ww_geti C ko_Instruction 1 ho_v1 (lt_ rfl) g_1_82 rfl rfl (dq dk_Machine_rightOf 1 rfl) ?_
  refine ww_nmi h (fun x1 h => ?_)
  by_cases e0_2 : x1 = 2
  · rw [if_pos e0_2] at h
    refine ww_tabIn C 32 (dq dk_Machine_rightOf 2 rfl) (by rw [e0_2]; decide) (by rw [e0_2]; decide) (by rw [e0_2]; rfl) (by decide) ?_
    refine ww_aload_n C 0 rfl rfl (dq dk_Machine_rightOf 3 rfl) ?_
    refine ww_aload_n C 1 rfl rfl (dq dk_Machine_rightOf 4 rfl) ?_
    refine ww_geti C ko_Instruction 3 ho_v1 (lt_ rfl) g_1_92 rfl rfl (dq dk_Machine_rightOf 5 rfl) ?_
    refine ww_cVi (st := []) C (c_Machine_registerAt v0 ho_v0 (σ v1 3)) cw_Machine_registerAt ho_v0 (lt_ rfl) rfl g_5_118 hRm ⟨⟨rfl, rfl⟩, le_ rfl, le_ rfl⟩ rfl rfl rfl (le_ rfl) (dq dk_Machine_rightOf 6 rfl) h (fun x3 σ2 h => ?_)
    exact ww_iret C hR (dq dk_Machine_rightOf 7 rfl) h
  rw [if_neg e0_2] at h
  by_cases e1_3 : x1 = 3
  · rw [if_pos e1_3] at h
    refine ww_tabIn C 41 (dq dk_Machine_rightOf 2 rfl) (by rw [e1_3]; decide) (by rw [e1_3]; decide) (by rw [e1_3]; rfl) (by decide) ?_
    refine ww_aload_n C 0 rfl rfl (dq dk_Machine_rightOf 8 rfl) ?_
    refine ww_iload_n C 2 rfl rfl (dq dk_Machine_rightOf 9 rfl) ?_
    refine ww_cVi (st := []) C (c_Machine_wordAt v0 ho_v0 v2) cw_Machine_wordAt ho_v0 (lt_ rfl) rfl g_5_73 hRm ⟨⟨rfl, rfl⟩, le_ rfl, le_ rfl⟩ rfl rfl rfl (le_ rfl) (dq dk_Machine_rightOf 10 rfl) h (fun x5 σ4 h => ?_)
    exact ww_iret C hR (dq dk_Machine_rightOf 11 rfl) h
  rw [if_neg e1_3] at h
  by_cases e2_4 : x1 = 4
  · rw [if_pos e2_4] at h
    refine ww_tabIn C 47 (dq dk_Machine_rightOf 2 rfl) (by rw [e2_4]; decide) (by rw [e2_4]; decide) (by rw [e2_4]; rfl) (by decide) ?_
    refine ww_aload_n C 0 rfl rfl (dq dk_Machine_rightOf 12 rfl) ?_
    refine ww_aload_n C 1 rfl rfl (dq dk_Machine_rightOf 13 rfl) ?_
    refine ww_geti C ko_Instruction 2 ho_v1 (lt_ rfl) g_1_88 rfl rfl (dq dk_Machine_rightOf 14 rfl) ?_
    refine ww_cVi (st := []) C (c_Machine_registerAt v0 ho_v0 (σ v1 2)) cw_Machine_registerAt ho_v0 (lt_ rfl) rfl g_5_118 hRm ⟨⟨rfl, rfl⟩, le_ rfl, le_ rfl⟩ rfl rfl rfl (le_ rfl) (dq dk_Machine_rightOf 15 rfl) h (fun x7 σ6 h => ?_)
    exact ww_iret C hR (dq dk_Machine_rightOf 16 rfl) h
  rw [if_neg e2_4] at h
  have ne0_2 := lv_neT (a := 2) e0_2 (by decide)
  have ne1_3 := lv_neT (a := 3) e1_3 (by decide)
  have ne2_4 := lv_neT (a := 4) e2_4 (by decide)
  refine ww_tabOut C 56 (dq dk_Machine_rightOf 2 rfl) (by omega) (by decide) ?_
  refine ww_aload_n C 1 rfl rfl (dq dk_Machine_rightOf 17 rfl) ?_
  refine ww_geti C ko_Instruction 5 ho_v1 (lt_ rfl) g_1_102 rfl rfl (dq dk_Machine_rightOf 18 rfl) ?_
  exact ww_iret C hR (dq dk_Machine_rightOf 19 rfl) h
abbrev y_Machine_perform : MethodName := ⟨"BundleHouse$Machine", "perform", "(LBundleHouse$Instruction;)I"⟩
def dl_Machine_perform : List (Nat × Instr × Nat) := [(0, .aload_n 0, 1), (1, .aload_n 1, 1), (2, .invokevirtual 103, 3), (5, .ifCond .eq 6, 3), (8, .bipush 7, 2), (10, .ireturn, 1), (11, .aload_n 1, 1), (12, .getfield 107, 3), (15, .invokestatic 112, 3), (18, .ifCond .eq 11, 3), (21, .aload_n 0, 1), (22, .aload_n 1, 1), (23, .invokevirtual 115, 3), (26, .goto 4, 3), (29, .iconst 0, 1), (30, .istore_n 2, 1), (31, .aload_n 0, 1), (32, .aload_n 1, 1), (33, .iload_n 2, 1), (34, .invokevirtual 119, 3), (37, .ifCond .eq 5, 3), (40, .iconst 3, 1), (41, .ireturn, 1), (42, .aload_n 1, 1), (43, .getfield 123, 3), (46, .tableswitch 177 7 21 #[150, 74, 150, 89, 177, 177, 177, 177, 177, 177, 177, 177, 101, 132, 147], 74), (120, .aload_n 0, 1), (121, .aload_n 1, 1), (122, .iload_n 2, 1), (123, .aload_n 0, 1), (124, .aload_n 1, 1), (125, .iload_n 2, 1), (126, .invokevirtual 126, 3), (129, .invokevirtual 130, 3), (132, .goto 120, 3), (135, .aload_n 0, 1), (136, .aload_n 1, 1), (137, .getfield 134, 3), (140, .iload_n 2, 1), (141, .invokevirtual 137, 3), (144, .goto 108, 3), (147, .aload_n 0, 1), (148, .aload_n 1, 1), (149, .getfield 107, 3), (152, .bipush 8, 2), (154, .if_icmp .ne 10, 3), (157, .aload_n 1, 1), (158, .getfield 140, 3), (161, .goto 11, 3), (164, .aload_n 0, 1), (165, .aload_n 1, 1), (166, .getfield 134, 3), (169, .invokevirtual 82, 3), (172, .invokevirtual 143, 3), (175, .goto 77, 3), (178, .aload_n 0, 1), (179, .aload_n 1, 1), (180, .getfield 134, 3), (183, .aload_n 0, 1), (184, .invokevirtual 146, 3), (187, .invokevirtual 137, 3), (190, .goto 62, 3), (193, .goto 59, 3), (196, .aload_n 0, 1), (197, .getfield 12, 3), (200, .aload_n 1, 1), (201, .getfield 123, 3), (204, .aload_n 0, 1), (205, .aload_n 1, 1), (206, .iload_n 2, 1), (207, .invokevirtual 150, 3), (210, .aload_n 0, 1), (211, .aload_n 1, 1), (212, .iload_n 2, 1), (213, .invokevirtual 126, 3), (216, .invokevirtual 153, 3), (219, .pop, 1), (220, .goto 32, 3), (223, .aload_n 0, 1), (224, .aload_n 1, 1), (225, .iload_n 2, 1), (226, .aload_n 0, 1), (227, .getfield 12, 3), (230, .aload_n 1, 1), (231, .getfield 123, 3), (234, .aload_n 0, 1), (235, .aload_n 1, 1), (236, .iload_n 2, 1), (237, .invokevirtual 150, 3), (240, .aload_n 0, 1), (241, .aload_n 1, 1), (242, .iload_n 2, 1), (243, .invokevirtual 126, 3), (246, .invokevirtual 153, 3), (249, .invokevirtual 130, 3), (252, .iconst (-1), 1), (253, .ireturn, 1)]
set_option maxRecDepth 100000 in
theorem dk_Machine_perform : ∀ q ∈ dl_Machine_perform, decode prog_5_method_19_code q.1 = .ok q.2 := by decide +kernel
abbrev rm_Machine_perform : Room := { frames := 3, cells := 0, slots := 0, locals := 70 }
theorem cw_Machine_perform : CWV y_Machine_perform prog_5_method_19_code 3 (some .int) 1 := ⟨⟨g_5_106, g_1_9, by decide, by decide, by decide +kernel⟩, g_5_104, g_5_105⟩
set_option maxHeartbeats 4000000 in
set_option maxRecDepth 100000 in
theorem t_Machine_perform_B223 {k : Cfg} {res : Int32 × St} (C : Cx k prog_5_method_19_code "BundleHouse$Machine") (hR : RI k .int res) (hRm : k.2.2.2.1 = rm_Machine_perform) (hnL : k.2.2.2.2.2.2.2.2.2.2.2.1 = 3) (v0 : Nat) (v1 : Nat) (v2 : Int32) (ho_v0 : kd v0 = 8) (ho_v1 : kd v1 = 4) (σ : St) (h : Machine_perform_B223 v0 v1 v2 σ = some res) : WW k 223 [(0, .ref (ad k v0)), (1, .ref (ad k v1)), (2, .int v2)] [] σ := by
  unfold Machine_perform_B223 at h
  refine ww_aload_n C 0 rfl rfl (dq dk_Machine_perform 78 rfl) ?_
  refine ww_aload_n C 1 rfl rfl (dq dk_Machine_perform 79 rfl) ?_
  refine ww_iload_n C 2 rfl rfl (dq dk_Machine_perform 80 rfl) ?_
  refine ww_aload_n C 0 rfl rfl (dq dk_Machine_perform 81 rfl) ?_
  refine ww_getr C ko_Machine 0 ho_v0 (lt_ rfl) g_2_64 rfl rfl (dq dk_Machine_perform 82 rfl) ?_
  refine ww_aload_n C 1 rfl rfl (dq dk_Machine_perform 83 rfl) ?_
  refine ww_geti C ko_Instruction 0 ho_v1 (lt_ rfl) g_1_76 rfl rfl (dq dk_Machine_perform 84 rfl) ?_
  refine ww_aload_n C 0 rfl rfl (dq dk_Machine_perform 85 rfl) ?_
  refine ww_aload_n C 1 rfl rfl (dq dk_Machine_perform 86 rfl) ?_
  refine ww_iload_n C 2 rfl rfl (dq dk_Machine_perform 87 rfl) ?_
  refine ww_cVi (st := [.int (σ v1 0), .ref (ad k (ch v0 0)), .int v2, .ref (ad k v1), .ref (ad k v0)]) C (c_Machine_leftOf v0 ho_v0 v1 ho_v1 v2) cw_Machine_leftOf ho_v0 (lt_ rfl) rfl g_5_140 hRm ⟨⟨rfl, rfl⟩, le_ rfl, le_ rfl⟩ rfl rfl rfl (le_ rfl) (dq dk_Machine_perform 88 rfl) h (fun x2 σ1 h => ?_)
  refine ww_aload_n C 0 rfl rfl (dq dk_Machine_perform 89 rfl) ?_
  refine ww_aload_n C 1 rfl rfl (dq dk_Machine_perform 90 rfl) ?_
  refine ww_iload_n C 2 rfl rfl (dq dk_Machine_perform 91 rfl) ?_
  refine ww_cVi (st := [.int x2, .int (σ v1 0), .ref (ad k (ch v0 0)), .int v2, .ref (ad k v1), .ref (ad k v0)]) C (c_Machine_rightOf v0 ho_v0 v1 ho_v1 v2) cw_Machine_rightOf ho_v0 (lt_ rfl) rfl g_5_126 hRm ⟨⟨rfl, rfl⟩, le_ rfl, le_ rfl⟩ rfl rfl rfl (le_ rfl) (dq dk_Machine_perform 92 rfl) h (fun x4 σ3 h => ?_)
  refine ww_cVi (st := [.int v2, .ref (ad k v1), .ref (ad k v0)]) C (c_Flags_reckon (ch v0 0) (kc_Machine_0 _ ho_v0) (σ v1 0) x2 x4) cw_Flags_reckon (kc_Machine_0 _ ho_v0) (lt_ rfl) rfl g_5_144 hRm ⟨⟨rfl, rfl⟩, le_ rfl, le_ rfl⟩ rfl rfl rfl (le_ rfl) (dq dk_Machine_perform 93 rfl) h (fun x6 σ5 h => ?_)
  refine ww_cVv (st := []) C (c_Machine_giveLeft v0 ho_v0 v1 ho_v1 v2 x6) cw_Machine_giveLeft ho_v0 (lt_ rfl) rfl g_5_130 hRm ⟨⟨rfl, rfl⟩, le_ rfl, le_ rfl⟩ rfl rfl rfl (le_ rfl) (dq dk_Machine_perform 94 rfl) h (fun σ7 h => ?_)
  refine ww_iconst C (dq dk_Machine_perform 95 rfl) ic_m1 ?_
  exact ww_iret C hR (dq dk_Machine_perform 96 rfl) h
set_option maxHeartbeats 4000000 in
set_option maxRecDepth 100000 in
theorem t_Machine_perform_B196 {k : Cfg} {res : Int32 × St} (C : Cx k prog_5_method_19_code "BundleHouse$Machine") (hR : RI k .int res) (hRm : k.2.2.2.1 = rm_Machine_perform) (hnL : k.2.2.2.2.2.2.2.2.2.2.2.1 = 3) (v0 : Nat) (v1 : Nat) (v2 : Int32) (ho_v0 : kd v0 = 8) (ho_v1 : kd v1 = 4) (σ : St) (h : Machine_perform_B196 v0 v1 v2 σ = some res) : WW k 196 [(0, .ref (ad k v0)), (1, .ref (ad k v1)), (2, .int v2)] [] σ := by
  unfold Machine_perform_B196 at h
  refine ww_aload_n C 0 rfl rfl (dq dk_Machine_perform 63 rfl) ?_
  refine ww_getr C ko_Machine 0 ho_v0 (lt_ rfl) g_2_64 rfl rfl (dq dk_Machine_perform 64 rfl) ?_
  refine ww_aload_n C 1 rfl rfl (dq dk_Machine_perform 65 rfl) ?_
  refine ww_geti C ko_Instruction 0 ho_v1 (lt_ rfl) g_1_76 rfl rfl (dq dk_Machine_perform 66 rfl) ?_
  refine ww_aload_n C 0 rfl rfl (dq dk_Machine_perform 67 rfl) ?_
  refine ww_aload_n C 1 rfl rfl (dq dk_Machine_perform 68 rfl) ?_
  refine ww_iload_n C 2 rfl rfl (dq dk_Machine_perform 69 rfl) ?_
  refine ww_cVi (st := [.int (σ v1 0), .ref (ad k (ch v0 0))]) C (c_Machine_leftOf v0 ho_v0 v1 ho_v1 v2) cw_Machine_leftOf ho_v0 (lt_ rfl) rfl g_5_140 hRm ⟨⟨rfl, rfl⟩, le_ rfl, le_ rfl⟩ rfl rfl rfl (le_ rfl) (dq dk_Machine_perform 70 rfl) h (fun x2 σ1 h => ?_)
  refine ww_aload_n C 0 rfl rfl (dq dk_Machine_perform 71 rfl) ?_
  refine ww_aload_n C 1 rfl rfl (dq dk_Machine_perform 72 rfl) ?_
  refine ww_iload_n C 2 rfl rfl (dq dk_Machine_perform 73 rfl) ?_
  refine ww_cVi (st := [.int x2, .int (σ v1 0), .ref (ad k (ch v0 0))]) C (c_Machine_rightOf v0 ho_v0 v1 ho_v1 v2) cw_Machine_rightOf ho_v0 (lt_ rfl) rfl g_5_126 hRm ⟨⟨rfl, rfl⟩, le_ rfl, le_ rfl⟩ rfl rfl rfl (le_ rfl) (dq dk_Machine_perform 74 rfl) h (fun x4 σ3 h => ?_)
  refine ww_cVi (st := []) C (c_Flags_reckon (ch v0 0) (kc_Machine_0 _ ho_v0) (σ v1 0) x2 x4) cw_Flags_reckon (kc_Machine_0 _ ho_v0) (lt_ rfl) rfl g_5_144 hRm ⟨⟨rfl, rfl⟩, le_ rfl, le_ rfl⟩ rfl rfl rfl (le_ rfl) (dq dk_Machine_perform 75 rfl) h (fun x6 σ5 h => ?_)
  refine ww_pop C rfl (dq dk_Machine_perform 76 rfl) ?_
  refine ww_goto C 252 (dq dk_Machine_perform 77 rfl) (by decide) ?_
  refine ww_iconst C (dq dk_Machine_perform 95 rfl) ic_m1 ?_
  exact ww_iret C hR (dq dk_Machine_perform 96 rfl) h
set_option maxHeartbeats 4000000 in
set_option maxRecDepth 100000 in
theorem t_Machine_perform_B30 {k : Cfg} {res : Int32 × St} (C : Cx k prog_5_method_19_code "BundleHouse$Machine") (hR : RI k .int res) (hRm : k.2.2.2.1 = rm_Machine_perform) (hnL : k.2.2.2.2.2.2.2.2.2.2.2.1 = 3) (v0 : Nat) (v1 : Nat) (t0 : Int32) (ho_v0 : kd v0 = 8) (ho_v1 : kd v1 = 4) (σ : St) (h : Machine_perform_B30 v0 v1 t0 σ = some res) : WW k 30 [(0, .ref (ad k v0)), (1, .ref (ad k v1))] [.int t0] σ := by
  unfold Machine_perform_B30 at h
  refine ww_istore_n C [(2, .int t0), (0, .ref (ad k v0)), (1, .ref (ad k v1))] rfl hnL (lt_ rfl) rfl (dq dk_Machine_perform 15 rfl) ?_
  refine ww_aload_n C 1 rfl rfl (dq dk_Machine_perform 16 rfl) ?_
  refine ww_aload_n C 2 rfl rfl (dq dk_Machine_perform 17 rfl) ?_
  refine ww_iload_n C 0 rfl rfl (dq dk_Machine_perform 18 rfl) ?_
  refine ww_cVi (st := []) C (c_Machine_lacksWord v0 ho_v0 v1 ho_v1 t0) cw_Machine_lacksWord ho_v0 (lt_ rfl) rfl g_5_120 hRm ⟨⟨rfl, rfl⟩, le_ rfl, le_ rfl⟩ rfl rfl rfl (le_ rfl) (dq dk_Machine_perform 19 rfl) h (fun x2 σ1 h => ?_)
  refine ww_if_eq C 42 (dq dk_Machine_perform 20 rfl) (by decide) h (fun h => ?_) (fun h => ?_)
  · refine ww_aload_n C 2 rfl rfl (dq dk_Machine_perform 23 rfl) ?_
    refine ww_geti C ko_Instruction 0 ho_v1 (lt_ rfl) g_1_76 rfl rfl (dq dk_Machine_perform 24 rfl) ?_
    refine ww_nmi h (fun x3 h => ?_)
    by_cases e0_7 : x3 = 7
    · rw [if_pos e0_7] at h
      refine ww_tabIn C 196 (dq dk_Machine_perform 25 rfl) (by rw [e0_7]; decide) (by rw [e0_7]; decide) (by rw [e0_7]; rfl) (by decide) ?_
      exact ww_lv [1, 2, 0] rfl (t_Machine_perform_B196 C hR hRm hnL v0 v1 t0 ho_v0 ho_v1 σ1 h)
    rw [if_neg e0_7] at h
    by_cases e1_8 : x3 = 8
    · rw [if_pos e1_8] at h
      refine ww_tabIn C 120 (dq dk_Machine_perform 25 rfl) (by rw [e1_8]; decide) (by rw [e1_8]; decide) (by rw [e1_8]; rfl) (by decide) ?_
      refine ww_aload_n C 1 rfl rfl (dq dk_Machine_perform 26 rfl) ?_
      refine ww_aload_n C 2 rfl rfl (dq dk_Machine_perform 27 rfl) ?_
      refine ww_iload_n C 0 rfl rfl (dq dk_Machine_perform 28 rfl) ?_
      refine ww_aload_n C 1 rfl rfl (dq dk_Machine_perform 29 rfl) ?_
      refine ww_aload_n C 2 rfl rfl (dq dk_Machine_perform 30 rfl) ?_
      refine ww_iload_n C 0 rfl rfl (dq dk_Machine_perform 31 rfl) ?_
      refine ww_cVi (st := [.int t0, .ref (ad k v1), .ref (ad k v0)]) C (c_Machine_rightOf v0 ho_v0 v1 ho_v1 t0) cw_Machine_rightOf ho_v0 (lt_ rfl) rfl g_5_126 hRm ⟨⟨rfl, rfl⟩, le_ rfl, le_ rfl⟩ rfl rfl rfl (le_ rfl) (dq dk_Machine_perform 32 rfl) h (fun x5 σ4 h => ?_)
      refine ww_cVv (st := []) C (c_Machine_giveLeft v0 ho_v0 v1 ho_v1 t0 x5) cw_Machine_giveLeft ho_v0 (lt_ rfl) rfl g_5_130 hRm ⟨⟨rfl, rfl⟩, le_ rfl, le_ rfl⟩ rfl rfl rfl (le_ rfl) (dq dk_Machine_perform 33 rfl) h (fun σ6 h => ?_)
      refine ww_goto C 252 (dq dk_Machine_perform 34 rfl) (by decide) ?_
      refine ww_iconst C (dq dk_Machine_perform 95 rfl) ic_m1 ?_
      exact ww_iret C hR (dq dk_Machine_perform 96 rfl) h
    rw [if_neg e1_8] at h
    by_cases e2_9 : x3 = 9
    · rw [if_pos e2_9] at h
      refine ww_tabIn C 196 (dq dk_Machine_perform 25 rfl) (by rw [e2_9]; decide) (by rw [e2_9]; decide) (by rw [e2_9]; rfl) (by decide) ?_
      exact ww_lv [1, 2, 0] rfl (t_Machine_perform_B196 C hR hRm hnL v0 v1 t0 ho_v0 ho_v1 σ1 h)
    rw [if_neg e2_9] at h
    by_cases e3_10 : x3 = 10
    · rw [if_pos e3_10] at h
      refine ww_tabIn C 135 (dq dk_Machine_perform 25 rfl) (by rw [e3_10]; decide) (by rw [e3_10]; decide) (by rw [e3_10]; rfl) (by decide) ?_
      refine ww_aload_n C 1 rfl rfl (dq dk_Machine_perform 35 rfl) ?_
      refine ww_aload_n C 2 rfl rfl (dq dk_Machine_perform 36 rfl) ?_
      refine ww_geti C ko_Instruction 2 ho_v1 (lt_ rfl) g_1_88 rfl rfl (dq dk_Machine_perform 37 rfl) ?_
      refine ww_iload_n C 0 rfl rfl (dq dk_Machine_perform 38 rfl) ?_
      refine ww_cVv (st := []) C (c_Machine_give v0 ho_v0 (σ1 v1 2) t0) cw_Machine_give ho_v0 (lt_ rfl) rfl g_5_137 hRm ⟨⟨rfl, rfl⟩, le_ rfl, le_ rfl⟩ rfl rfl rfl (le_ rfl) (dq dk_Machine_perform 39 rfl) h (fun σ7 h => ?_)
      refine ww_goto C 252 (dq dk_Machine_perform 40 rfl) (by decide) ?_
      refine ww_iconst C (dq dk_Machine_perform 95 rfl) ic_m1 ?_
      exact ww_iret C hR (dq dk_Machine_perform 96 rfl) h
    rw [if_neg e3_10] at h
    by_cases e4_11 : x3 = 11
    · rw [if_pos e4_11] at h
      refine ww_tabIn C 223 (dq dk_Machine_perform 25 rfl) (by rw [e4_11]; decide) (by rw [e4_11]; decide) (by rw [e4_11]; rfl) (by decide) ?_
      exact ww_lv [1, 2, 0] rfl (t_Machine_perform_B223 C hR hRm hnL v0 v1 t0 ho_v0 ho_v1 σ1 h)
    rw [if_neg e4_11] at h
    by_cases e5_12 : x3 = 12
    · rw [if_pos e5_12] at h
      refine ww_tabIn C 223 (dq dk_Machine_perform 25 rfl) (by rw [e5_12]; decide) (by rw [e5_12]; decide) (by rw [e5_12]; rfl) (by decide) ?_
      exact ww_lv [1, 2, 0] rfl (t_Machine_perform_B223 C hR hRm hnL v0 v1 t0 ho_v0 ho_v1 σ1 h)
    rw [if_neg e5_12] at h
    by_cases e6_13 : x3 = 13
    · rw [if_pos e6_13] at h
      refine ww_tabIn C 223 (dq dk_Machine_perform 25 rfl) (by rw [e6_13]; decide) (by rw [e6_13]; decide) (by rw [e6_13]; rfl) (by decide) ?_
      exact ww_lv [1, 2, 0] rfl (t_Machine_perform_B223 C hR hRm hnL v0 v1 t0 ho_v0 ho_v1 σ1 h)
    rw [if_neg e6_13] at h
    by_cases e7_14 : x3 = 14
    · rw [if_pos e7_14] at h
      refine ww_tabIn C 223 (dq dk_Machine_perform 25 rfl) (by rw [e7_14]; decide) (by rw [e7_14]; decide) (by rw [e7_14]; rfl) (by decide) ?_
      exact ww_lv [1, 2, 0] rfl (t_Machine_perform_B223 C hR hRm hnL v0 v1 t0 ho_v0 ho_v1 σ1 h)
    rw [if_neg e7_14] at h
    by_cases e8_15 : x3 = 15
    · rw [if_pos e8_15] at h
      refine ww_tabIn C 223 (dq dk_Machine_perform 25 rfl) (by rw [e8_15]; decide) (by rw [e8_15]; decide) (by rw [e8_15]; rfl) (by decide) ?_
      exact ww_lv [1, 2, 0] rfl (t_Machine_perform_B223 C hR hRm hnL v0 v1 t0 ho_v0 ho_v1 σ1 h)
    rw [if_neg e8_15] at h
    by_cases e9_16 : x3 = 16
    · rw [if_pos e9_16] at h
      refine ww_tabIn C 223 (dq dk_Machine_perform 25 rfl) (by rw [e9_16]; decide) (by rw [e9_16]; decide) (by rw [e9_16]; rfl) (by decide) ?_
      exact ww_lv [1, 2, 0] rfl (t_Machine_perform_B223 C hR hRm hnL v0 v1 t0 ho_v0 ho_v1 σ1 h)
    rw [if_neg e9_16] at h
    by_cases e10_17 : x3 = 17
    · rw [if_pos e10_17] at h
      refine ww_tabIn C 223 (dq dk_Machine_perform 25 rfl) (by rw [e10_17]; decide) (by rw [e10_17]; decide) (by rw [e10_17]; rfl) (by decide) ?_
      exact ww_lv [1, 2, 0] rfl (t_Machine_perform_B223 C hR hRm hnL v0 v1 t0 ho_v0 ho_v1 σ1 h)
    rw [if_neg e10_17] at h
    by_cases e11_18 : x3 = 18
    · rw [if_pos e11_18] at h
      refine ww_tabIn C 223 (dq dk_Machine_perform 25 rfl) (by rw [e11_18]; decide) (by rw [e11_18]; decide) (by rw [e11_18]; rfl) (by decide) ?_
      exact ww_lv [1, 2, 0] rfl (t_Machine_perform_B223 C hR hRm hnL v0 v1 t0 ho_v0 ho_v1 σ1 h)
    rw [if_neg e11_18] at h
    by_cases e12_19 : x3 = 19
    · rw [if_pos e12_19] at h
      refine ww_tabIn C 147 (dq dk_Machine_perform 25 rfl) (by rw [e12_19]; decide) (by rw [e12_19]; decide) (by rw [e12_19]; rfl) (by decide) ?_
      refine ww_aload_n C 1 rfl rfl (dq dk_Machine_perform 41 rfl) ?_
      refine ww_aload_n C 2 rfl rfl (dq dk_Machine_perform 42 rfl) ?_
      refine ww_geti C ko_Instruction 1 ho_v1 (lt_ rfl) g_1_82 rfl rfl (dq dk_Machine_perform 43 rfl) ?_
      refine ww_bipush C (dq dk_Machine_perform 44 rfl) bp_8 ?_
      refine ww_icmp_ne C 164 (dq dk_Machine_perform 45 rfl) (by decide) h (fun h => ?_) (fun h => ?_)
      · refine ww_aload_n C 1 rfl rfl (dq dk_Machine_perform 49 rfl) ?_
        refine ww_aload_n C 2 rfl rfl (dq dk_Machine_perform 50 rfl) ?_
        refine ww_geti C ko_Instruction 2 ho_v1 (lt_ rfl) g_1_88 rfl rfl (dq dk_Machine_perform 51 rfl) ?_
        refine ww_cVi (st := [.ref (ad k v0)]) C (c_Machine_registerAt v0 ho_v0 (σ1 v1 2)) cw_Machine_registerAt ho_v0 (lt_ rfl) rfl g_5_118 hRm ⟨⟨rfl, rfl⟩, le_ rfl, le_ rfl⟩ rfl rfl rfl (le_ rfl) (dq dk_Machine_perform 52 rfl) h (fun x9 σ8 h => ?_)
        refine ww_cVv (st := []) C (c_Machine_push v0 ho_v0 x9) cw_Machine_push ho_v0 (lt_ rfl) rfl g_5_138 hRm ⟨⟨rfl, rfl⟩, le_ rfl, le_ rfl⟩ rfl rfl rfl (le_ rfl) (dq dk_Machine_perform 53 rfl) h (fun σ10 h => ?_)
        refine ww_goto C 252 (dq dk_Machine_perform 54 rfl) (by decide) ?_
        refine ww_iconst C (dq dk_Machine_perform 95 rfl) ic_m1 ?_
        exact ww_iret C hR (dq dk_Machine_perform 96 rfl) h
      · refine ww_aload_n C 2 rfl rfl (dq dk_Machine_perform 46 rfl) ?_
        refine ww_geti C ko_Instruction 5 ho_v1 (lt_ rfl) g_1_102 rfl rfl (dq dk_Machine_perform 47 rfl) ?_
        refine ww_goto C 172 (dq dk_Machine_perform 48 rfl) (by decide) ?_
        refine ww_cVv (st := []) C (c_Machine_push v0 ho_v0 (σ1 v1 5)) cw_Machine_push ho_v0 (lt_ rfl) rfl g_5_138 hRm ⟨⟨rfl, rfl⟩, le_ rfl, le_ rfl⟩ rfl rfl rfl (le_ rfl) (dq dk_Machine_perform 53 rfl) h (fun σ11 h => ?_)
        refine ww_goto C 252 (dq dk_Machine_perform 54 rfl) (by decide) ?_
        refine ww_iconst C (dq dk_Machine_perform 95 rfl) ic_m1 ?_
        exact ww_iret C hR (dq dk_Machine_perform 96 rfl) h
    rw [if_neg e12_19] at h
    by_cases e13_20 : x3 = 20
    · rw [if_pos e13_20] at h
      refine ww_tabIn C 178 (dq dk_Machine_perform 25 rfl) (by rw [e13_20]; decide) (by rw [e13_20]; decide) (by rw [e13_20]; rfl) (by decide) ?_
      refine ww_aload_n C 1 rfl rfl (dq dk_Machine_perform 55 rfl) ?_
      refine ww_aload_n C 2 rfl rfl (dq dk_Machine_perform 56 rfl) ?_
      refine ww_geti C ko_Instruction 2 ho_v1 (lt_ rfl) g_1_88 rfl rfl (dq dk_Machine_perform 57 rfl) ?_
      refine ww_aload_n C 1 rfl rfl (dq dk_Machine_perform 58 rfl) ?_
      refine ww_cVi (st := [.int (σ1 v1 2), .ref (ad k v0)]) C (c_Machine_pop v0 ho_v0) cw_Machine_pop ho_v0 (lt_ rfl) rfl g_5_139 hRm ⟨⟨rfl, rfl⟩, le_ rfl, le_ rfl⟩ rfl rfl rfl (le_ rfl) (dq dk_Machine_perform 59 rfl) h (fun x13 σ12 h => ?_)
      refine ww_cVv (st := []) C (c_Machine_give v0 ho_v0 (σ1 v1 2) x13) cw_Machine_give ho_v0 (lt_ rfl) rfl g_5_137 hRm ⟨⟨rfl, rfl⟩, le_ rfl, le_ rfl⟩ rfl rfl rfl (le_ rfl) (dq dk_Machine_perform 60 rfl) h (fun σ14 h => ?_)
      refine ww_goto C 252 (dq dk_Machine_perform 61 rfl) (by decide) ?_
      refine ww_iconst C (dq dk_Machine_perform 95 rfl) ic_m1 ?_
      exact ww_iret C hR (dq dk_Machine_perform 96 rfl) h
    rw [if_neg e13_20] at h
    by_cases e14_21 : x3 = 21
    · rw [if_pos e14_21] at h
      refine ww_tabIn C 193 (dq dk_Machine_perform 25 rfl) (by rw [e14_21]; decide) (by rw [e14_21]; decide) (by rw [e14_21]; rfl) (by decide) ?_
      refine ww_goto C 252 (dq dk_Machine_perform 62 rfl) (by decide) ?_
      refine ww_iconst C (dq dk_Machine_perform 95 rfl) ic_m1 ?_
      exact ww_iret C hR (dq dk_Machine_perform 96 rfl) h
    rw [if_neg e14_21] at h
    have ne0_7 := lv_neT (a := 7) e0_7 (by decide)
    have ne1_8 := lv_neT (a := 8) e1_8 (by decide)
    have ne2_9 := lv_neT (a := 9) e2_9 (by decide)
    have ne3_10 := lv_neT (a := 10) e3_10 (by decide)
    have ne4_11 := lv_neT (a := 11) e4_11 (by decide)
    have ne5_12 := lv_neT (a := 12) e5_12 (by decide)
    have ne6_13 := lv_neT (a := 13) e6_13 (by decide)
    have ne7_14 := lv_neT (a := 14) e7_14 (by decide)
    have ne8_15 := lv_neT (a := 15) e8_15 (by decide)
    have ne9_16 := lv_neT (a := 16) e9_16 (by decide)
    have ne10_17 := lv_neT (a := 17) e10_17 (by decide)
    have ne11_18 := lv_neT (a := 18) e11_18 (by decide)
    have ne12_19 := lv_neT (a := 19) e12_19 (by decide)
    have ne13_20 := lv_neT (a := 20) e13_20 (by decide)
    have ne14_21 := lv_neT (a := 21) e14_21 (by decide)
    refine ww_tabOut C 223 (dq dk_Machine_perform 25 rfl) (by omega) (by decide) ?_
    exact ww_lv [1, 2, 0] rfl (t_Machine_perform_B223 C hR hRm hnL v0 v1 t0 ho_v0 ho_v1 σ1 h)
  · refine ww_iconst C (dq dk_Machine_perform 21 rfl) ic_3 ?_
    exact ww_iret C hR (dq dk_Machine_perform 22 rfl) h
set_option maxHeartbeats 4000000 in
set_option maxRecDepth 100000 in
theorem c_Machine_perform (v0 : Nat) (ho_v0 : kd v0 = 8) (v1 : Nat) (ho_v1 : kd v1 = 4) : MI y_Machine_perform rm_Machine_perform prog_5_method_19_code 3 .int (fun a => [.ref (a v0), .ref (a v1)]) (Machine_perform v0 v1) := by
  refine mi_of (by decide) (fun _ => le_ rfl) ?_
  intro k res σ C hR hRm hnL h
  unfold Machine_perform at h
  show WW k 0 [(0, .ref (ad k v0)), (1, .ref (ad k v1))] [] σ
  refine ww_aload_n C 0 rfl rfl (dq dk_Machine_perform 0 rfl) ?_
  refine ww_aload_n C 1 rfl rfl (dq dk_Machine_perform 1 rfl) ?_
  refine ww_cVi (st := []) C (c_Machine_readsUnknown v0 ho_v0 v1 ho_v1) cw_Machine_readsUnknown ho_v0 (lt_ rfl) rfl g_5_107 hRm ⟨⟨rfl, rfl⟩, le_ rfl, le_ rfl⟩ rfl rfl rfl (le_ rfl) (dq dk_Machine_perform 2 rfl) h (fun x2 σ1 h => ?_)
  refine ww_if_eq C 11 (dq dk_Machine_perform 3 rfl) (by decide) h (fun h => ?_) (fun h => ?_)
  · refine ww_aload_n C 1 rfl rfl (dq dk_Machine_perform 6 rfl) ?_
    refine ww_geti C ko_Instruction 1 ho_v1 (lt_ rfl) g_1_82 rfl rfl (dq dk_Machine_perform 7 rfl) ?_
    refine ww_cNi (st := []) C (c_House_isMemoryForm (σ1 v1 1)) cw_House_isMemoryForm nw_18 hRm ⟨⟨rfl, rfl⟩, le_ rfl, le_ rfl⟩ rfl rfl rfl (le_ rfl) (dq dk_Machine_perform 8 rfl) h (fun x4 σ3 h => ?_)
    refine ww_if_eq C 29 (dq dk_Machine_perform 9 rfl) (by decide) h (fun h => ?_) (fun h => ?_)
    · refine ww_iconst C (dq dk_Machine_perform 14 rfl) ic_0 ?_
      exact ww_lv [0, 1] rfl (t_Machine_perform_B30 C hR hRm hnL v0 v1 0 ho_v0 ho_v1 σ3 h)
    · refine ww_aload_n C 0 rfl rfl (dq dk_Machine_perform 10 rfl) ?_
      refine ww_aload_n C 1 rfl rfl (dq dk_Machine_perform 11 rfl) ?_
      refine ww_cVi (st := []) C (c_Machine_addressOf v0 ho_v0 v1 ho_v1) cw_Machine_addressOf ho_v0 (lt_ rfl) rfl g_5_114 hRm ⟨⟨rfl, rfl⟩, le_ rfl, le_ rfl⟩ rfl rfl rfl (le_ rfl) (dq dk_Machine_perform 12 rfl) h (fun x6 σ5 h => ?_)
      refine ww_goto C 30 (dq dk_Machine_perform 13 rfl) (by decide) ?_
      exact ww_lv [0, 1] rfl (t_Machine_perform_B30 C hR hRm hnL v0 v1 x6 ho_v0 ho_v1 σ5 h)
  · refine ww_bipush C (dq dk_Machine_perform 4 rfl) bp_7 ?_
    exact ww_iret C hR (dq dk_Machine_perform 5 rfl) h
abbrev y_Runner_serve : MethodName := ⟨"BundleHouse$Runner", "serve", "(I)I"⟩
def dl_Runner_serve : List (Nat × Instr × Nat) := [(0, .iload_n 1, 1), (1, .ifCond .ne 18, 3), (4, .aload_n 0, 1), (5, .getfield 19, 3), (8, .dup, 1), (9, .getfield 43, 3), (12, .iconst 1, 1), (13, .iadd, 1), (14, .putfield 43, 3), (17, .iconst 2, 1), (18, .ireturn, 1), (19, .aload_n 0, 1), (20, .getfield 19, 3), (23, .invokevirtual 46, 3), (26, .ifCond .ne 5, 3), (29, .iconst 3, 1), (30, .ireturn, 1), (31, .aload_n 0, 1), (32, .getfield 19, 3), (35, .iload_n 1, 1), (36, .invokevirtual 50, 3), (39, .ifCond .eq 6, 3), (42, .bipush 6, 2), (44, .ireturn, 1), (45, .aload_n 0, 1), (46, .getfield 19, 3), (49, .iload_n 1, 1), (50, .invokevirtual 53, 3), (53, .aload_n 0, 1), (54, .getfield 19, 3), (57, .aload_n 0, 1), (58, .getfield 19, 3), (61, .invokevirtual 56, 3), (64, .bipush (-16), 2), (66, .iand, 1), (67, .putfield 23, 3), (70, .aload_n 0, 1), (71, .getfield 19, 3), (74, .dup, 1), (75, .getfield 43, 3), (78, .iconst 1, 1), (79, .iadd, 1), (80, .putfield 43, 3), (83, .iconst (-1), 1), (84, .ireturn, 1)]
set_option maxRecDepth 100000 in
theorem dk_Runner_serve : ∀ q ∈ dl_Runner_serve, decode prog_10_method_3_code q.1 = .ok q.2 := by decide +kernel
abbrev rm_Runner_serve : Room := { frames := 3, cells := 0, slots := 0, locals := 62 }
theorem cw_Runner_serve : CWV y_Runner_serve prog_10_method_3_code 2 (some .int) 1 := ⟨⟨g_5_56, g_1_11, by decide, by decide, by decide +kernel⟩, g_5_55, gs_3_6⟩
set_option maxHeartbeats 4000000 in
set_option maxRecDepth 100000 in
theorem c_Runner_serve (v0 : Nat) (ho_v0 : kd v0 = 10) (v1 : Int32) : MI y_Runner_serve rm_Runner_serve prog_10_method_3_code 2 .int (fun a => [.ref (a v0), .int v1]) (Runner_serve v0 v1) := by
  refine mi_of (by decide) (fun _ => le_ rfl) ?_
  intro k res σ C hR hRm hnL h
  unfold Runner_serve at h
  show WW k 0 [(0, .ref (ad k v0)), (1, .int v1)] [] σ
  refine ww_iload_n C 1 rfl rfl (dq dk_Runner_serve 0 rfl) ?_
  refine ww_if_ne C 19 (dq dk_Runner_serve 1 rfl) (by decide) h (fun h => ?_) (fun h => ?_)
  · refine ww_aload_n C 0 rfl rfl (dq dk_Runner_serve 11 rfl) ?_
    refine ww_getr C ko_Runner 2 ho_v0 (lt_ rfl) g_2_126 rfl rfl (dq dk_Runner_serve 12 rfl) ?_
    refine ww_cVi (st := []) C (c_Machine_canPop (ch v0 2) (kc_Runner_2 _ ho_v0)) cw_Machine_canPop (kc_Runner_2 _ ho_v0) (lt_ rfl) rfl g_5_57 hRm ⟨⟨rfl, rfl⟩, le_ rfl, le_ rfl⟩ rfl rfl rfl (le_ rfl) (dq dk_Runner_serve 13 rfl) h (fun x2 σ1 h => ?_)
    refine ww_if_ne C 31 (dq dk_Runner_serve 14 rfl) (by decide) h (fun h => ?_) (fun h => ?_)
    · refine ww_aload_n C 0 rfl rfl (dq dk_Runner_serve 17 rfl) ?_
      refine ww_getr C ko_Runner 2 ho_v0 (lt_ rfl) g_2_126 rfl rfl (dq dk_Runner_serve 18 rfl) ?_
      refine ww_iload_n C 1 rfl rfl (dq dk_Runner_serve 19 rfl) ?_
      refine ww_cVi (st := []) C (c_Machine_isFullFor (ch v0 2) (kc_Runner_2 _ ho_v0) v1) cw_Machine_isFullFor (kc_Runner_2 _ ho_v0) (lt_ rfl) rfl g_5_61 hRm ⟨⟨rfl, rfl⟩, le_ rfl, le_ rfl⟩ rfl rfl rfl (le_ rfl) (dq dk_Runner_serve 20 rfl) h (fun x4 σ3 h => ?_)
      refine ww_if_eq C 45 (dq dk_Runner_serve 21 rfl) (by decide) h (fun h => ?_) (fun h => ?_)
      · refine ww_aload_n C 0 rfl rfl (dq dk_Runner_serve 24 rfl) ?_
        refine ww_getr C ko_Runner 2 ho_v0 (lt_ rfl) g_2_126 rfl rfl (dq dk_Runner_serve 25 rfl) ?_
        refine ww_iload_n C 1 rfl rfl (dq dk_Runner_serve 26 rfl) ?_
        refine ww_cVv (st := []) C (c_Machine_serve (ch v0 2) (kc_Runner_2 _ ho_v0) v1) cw_Machine_serve (kc_Runner_2 _ ho_v0) (lt_ rfl) rfl g_5_65 hRm ⟨⟨rfl, rfl⟩, le_ rfl, le_ rfl⟩ rfl rfl rfl (le_ rfl) (dq dk_Runner_serve 27 rfl) h (fun σ5 h => ?_)
        refine ww_aload_n C 0 rfl rfl (dq dk_Runner_serve 28 rfl) ?_
        refine ww_getr C ko_Runner 2 ho_v0 (lt_ rfl) g_2_126 rfl rfl (dq dk_Runner_serve 29 rfl) ?_
        refine ww_aload_n C 0 rfl rfl (dq dk_Runner_serve 30 rfl) ?_
        refine ww_getr C ko_Runner 2 ho_v0 (lt_ rfl) g_2_126 rfl rfl (dq dk_Runner_serve 31 rfl) ?_
        refine ww_cVi (st := [.ref (ad k (ch v0 2))]) C (c_Machine_pop (ch v0 2) (kc_Runner_2 _ ho_v0)) cw_Machine_pop (kc_Runner_2 _ ho_v0) (lt_ rfl) rfl g_5_69 hRm ⟨⟨rfl, rfl⟩, le_ rfl, le_ rfl⟩ rfl rfl rfl (le_ rfl) (dq dk_Runner_serve 32 rfl) h (fun x7 σ6 h => ?_)
        refine ww_bipush C (dq dk_Runner_serve 33 rfl) bp_m16 ?_
        refine ww_iand C (dq dk_Runner_serve 34 rfl) ?_
        refine ww_puti C ko_Machine 1 (kc_Runner_2 _ ho_v0) (lt_ rfl) g_2_67 rfl rfl rfl rfl (dq dk_Runner_serve 35 rfl) h (fun σ8 h => ?_)
        refine ww_aload_n C 0 rfl rfl (dq dk_Runner_serve 36 rfl) ?_
        refine ww_getr C ko_Runner 2 ho_v0 (lt_ rfl) g_2_126 rfl rfl (dq dk_Runner_serve 37 rfl) ?_
        refine ww_dup C rfl (dq dk_Runner_serve 38 rfl) ?_
        refine ww_geti C ko_Machine 2 (kc_Runner_2 _ ho_v0) (lt_ rfl) g_2_71 rfl rfl (dq dk_Runner_serve 39 rfl) ?_
        refine ww_iconst C (dq dk_Runner_serve 40 rfl) ic_1 ?_
        refine ww_iadd C (dq dk_Runner_serve 41 rfl) ?_
        refine ww_puti C ko_Machine 2 (kc_Runner_2 _ ho_v0) (lt_ rfl) g_2_71 rfl rfl rfl rfl (dq dk_Runner_serve 42 rfl) h (fun σ9 h => ?_)
        refine ww_iconst C (dq dk_Runner_serve 43 rfl) ic_m1 ?_
        exact ww_iret C hR (dq dk_Runner_serve 44 rfl) h
      · refine ww_bipush C (dq dk_Runner_serve 22 rfl) bp_6 ?_
        exact ww_iret C hR (dq dk_Runner_serve 23 rfl) h
    · refine ww_iconst C (dq dk_Runner_serve 15 rfl) ic_3 ?_
      exact ww_iret C hR (dq dk_Runner_serve 16 rfl) h
  · refine ww_aload_n C 0 rfl rfl (dq dk_Runner_serve 2 rfl) ?_
    refine ww_getr C ko_Runner 2 ho_v0 (lt_ rfl) g_2_126 rfl rfl (dq dk_Runner_serve 3 rfl) ?_
    refine ww_dup C rfl (dq dk_Runner_serve 4 rfl) ?_
    refine ww_geti C ko_Machine 2 (kc_Runner_2 _ ho_v0) (lt_ rfl) g_2_71 rfl rfl (dq dk_Runner_serve 5 rfl) ?_
    refine ww_iconst C (dq dk_Runner_serve 6 rfl) ic_1 ?_
    refine ww_iadd C (dq dk_Runner_serve 7 rfl) ?_
    refine ww_puti C ko_Machine 2 (kc_Runner_2 _ ho_v0) (lt_ rfl) g_2_71 rfl rfl rfl rfl (dq dk_Runner_serve 8 rfl) h (fun σ10 h => ?_)
    refine ww_iconst C (dq dk_Runner_serve 9 rfl) ic_2 ?_
    exact ww_iret C hR (dq dk_Runner_serve 10 rfl) h
abbrev y_Runner_turnOff : MethodName := ⟨"BundleHouse$Runner", "turnOff", "(LBundleHouse$Instruction;I)I"⟩
def dl_Runner_turnOff : List (Nat × Instr × Nat) := [(0, .aload_n 1, 1), (1, .getfield 74, 3), (4, .bipush 26, 2), (6, .if_icmp .eq 12, 3), (9, .aload_n 1, 1), (10, .getfield 74, 3), (13, .bipush 28, 2), (15, .if_icmp .ne 7, 3), (18, .iconst 1, 1), (19, .goto 4, 3), (22, .iconst 0, 1), (23, .istore_n 3, 1), (24, .iload_n 3, 1), (25, .ifCond .eq 15, 3), (28, .aload_n 0, 1), (29, .getfield 19, 3), (32, .invokevirtual 96, 3), (35, .ifCond .ne 5, 3), (38, .iconst 3, 1), (39, .ireturn, 1), (40, .aload_n 1, 1), (41, .getfield 99, 3), (44, .bipush 8, 2), (46, .if_icmp .ne 12, 3), (49, .iload_n 2, 1), (50, .aload_n 1, 1), (51, .getfield 102, 3), (54, .iadd, 1), (55, .goto 14, 3), (58, .aload_n 0, 1), (59, .getfield 19, 3), (62, .aload_n 1, 1), (63, .getfield 105, 3), (66, .invokevirtual 108, 3), (69, .istore 4, 2), (71, .iload_n 3, 1), (72, .ifCond .eq 11, 3), (75, .aload_n 0, 1), (76, .getfield 19, 3), (79, .iload_n 2, 1), (80, .invokevirtual 111, 3), (83, .aload_n 1, 1), (84, .getfield 74, 3), (87, .bipush 25, 2), (89, .if_icmp .ne 24, 3), (92, .aload_n 0, 1), (93, .getfield 19, 3), (96, .getfield 114, 3), (99, .aload_n 1, 1), (100, .getfield 105, 3), (103, .invokevirtual 118, 3), (106, .ifCond .ne 7, 3), (109, .iconst 1, 1), (110, .goto 4, 3), (113, .iconst 0, 1), (114, .istore 5, 2), (116, .aload_n 0, 1), (117, .getfield 19, 3), (120, .iload 5, 2), (122, .ifCond .eq 7, 3), (125, .iload_n 2, 1), (126, .goto 5, 3), (129, .iload 4, 2), (131, .putfield 23, 3), (134, .iconst (-1), 1), (135, .ireturn, 1)]
set_option maxRecDepth 100000 in
theorem dk_Runner_turnOff : ∀ q ∈ dl_Runner_turnOff, decode prog_10_method_5_code q.1 = .ok q.2 := by decide +kernel
abbrev rm_Runner_turnOff : Room := { frames := 3, cells := 0, slots := 0, locals := 63 }
theorem cw_Runner_turnOff : CWV y_Runner_turnOff prog_10_method_5_code 6 (some .int) 2 := ⟨⟨g_5_85, g_1_11, by decide, by decide, by decide +kernel⟩, g_5_84, gs_3_8⟩
set_option maxHeartbeats 4000000 in
set_option maxRecDepth 100000 in
theorem t_Runner_turnOff_B83 {k : Cfg} {res : Int32 × St} (C : Cx k prog_10_method_5_code "BundleHouse$Runner") (hR : RI k .int res) (hRm : k.2.2.2.1 = rm_Runner_turnOff) (hnL : k.2.2.2.2.2.2.2.2.2.2.2.1 = 6) (v0 : Nat) (v1 : Nat) (v2 : Int32) (v4 : Int32) (ho_v0 : kd v0 = 10) (ho_v1 : kd v1 = 4) (σ : St) (h : Runner_turnOff_B83 v0 v1 v2 v4 σ = some res) : WW k 83 [(0, .ref (ad k v0)), (1, .ref (ad k v1)), (2, .int v2), (4, .int v4)] [] σ := by
  unfold Runner_turnOff_B83 at h
  refine ww_aload_n C 1 rfl rfl (dq dk_Runner_turnOff 41 rfl) ?_
  refine ww_geti C ko_Instruction 0 ho_v1 (lt_ rfl) g_1_72 rfl rfl (dq dk_Runner_turnOff 42 rfl) ?_
  refine ww_bipush C (dq dk_Runner_turnOff 43 rfl) bp_25 ?_
  refine ww_icmp_ne C 113 (dq dk_Runner_turnOff 44 rfl) (by decide) h (fun h => ?_) (fun h => ?_)
  · refine ww_iconst C (dq dk_Runner_turnOff 54 rfl) ic_0 ?_
    refine ww_istore C [(5, .int 0), (0, .ref (ad k v0)), (1, .ref (ad k v1)), (2, .int v2), (4, .int v4)] hnL (lt_ rfl) rfl (dq dk_Runner_turnOff 55 rfl) ?_
    refine ww_aload_n C 1 rfl rfl (dq dk_Runner_turnOff 56 rfl) ?_
    refine ww_getr C ko_Runner 2 ho_v0 (lt_ rfl) g_2_126 rfl rfl (dq dk_Runner_turnOff 57 rfl) ?_
    refine ww_iload C 0 rfl (dq dk_Runner_turnOff 58 rfl) ?_
    refine ww_if_eq C 129 (dq dk_Runner_turnOff 59 rfl) (by decide) (ift (by decide) h) (fun h => ?_) (fun h => by cases h)
    refine ww_iload C 4 rfl (dq dk_Runner_turnOff 62 rfl) ?_
    refine ww_puti C ko_Machine 1 (kc_Runner_2 _ ho_v0) (lt_ rfl) g_2_67 rfl rfl rfl rfl (dq dk_Runner_turnOff 63 rfl) h (fun σ1 h => ?_)
    refine ww_iconst C (dq dk_Runner_turnOff 64 rfl) ic_m1 ?_
    exact ww_iret C hR (dq dk_Runner_turnOff 65 rfl) h
  · refine ww_aload_n C 0 rfl rfl (dq dk_Runner_turnOff 45 rfl) ?_
    refine ww_getr C ko_Runner 2 ho_v0 (lt_ rfl) g_2_126 rfl rfl (dq dk_Runner_turnOff 46 rfl) ?_
    refine ww_getr C ko_Machine 0 (kc_Runner_2 _ ho_v0) (lt_ rfl) g_2_65 rfl rfl (dq dk_Runner_turnOff 47 rfl) ?_
    refine ww_aload_n C 1 rfl rfl (dq dk_Runner_turnOff 48 rfl) ?_
    refine ww_geti C ko_Instruction 2 ho_v1 (lt_ rfl) g_1_86 rfl rfl (dq dk_Runner_turnOff 49 rfl) ?_
    refine ww_cVi (st := []) C (c_Flags_holds (ch (ch v0 2) 0) (kc_Machine_0 _ (kc_Runner_2 _ ho_v0)) (σ v1 2)) cw_Flags_holds (kc_Machine_0 _ (kc_Runner_2 _ ho_v0)) (lt_ rfl) rfl g_5_99 hRm ⟨⟨rfl, rfl⟩, le_ rfl, le_ rfl⟩ rfl rfl rfl (le_ rfl) (dq dk_Runner_turnOff 50 rfl) h (fun x3 σ2 h => ?_)
    refine ww_if_ne C 113 (dq dk_Runner_turnOff 51 rfl) (by decide) h (fun h => ?_) (fun h => ?_)
    · refine ww_iconst C (dq dk_Runner_turnOff 54 rfl) ic_0 ?_
      refine ww_istore C [(5, .int 0), (0, .ref (ad k v0)), (1, .ref (ad k v1)), (2, .int v2), (4, .int v4)] hnL (lt_ rfl) rfl (dq dk_Runner_turnOff 55 rfl) ?_
      refine ww_aload_n C 1 rfl rfl (dq dk_Runner_turnOff 56 rfl) ?_
      refine ww_getr C ko_Runner 2 ho_v0 (lt_ rfl) g_2_126 rfl rfl (dq dk_Runner_turnOff 57 rfl) ?_
      refine ww_iload C 0 rfl (dq dk_Runner_turnOff 58 rfl) ?_
      refine ww_if_eq C 129 (dq dk_Runner_turnOff 59 rfl) (by decide) (ift (by decide) h) (fun h => ?_) (fun h => by cases h)
      refine ww_iload C 4 rfl (dq dk_Runner_turnOff 62 rfl) ?_
      refine ww_puti C ko_Machine 1 (kc_Runner_2 _ ho_v0) (lt_ rfl) g_2_67 rfl rfl rfl rfl (dq dk_Runner_turnOff 63 rfl) h (fun σ4 h => ?_)
      refine ww_iconst C (dq dk_Runner_turnOff 64 rfl) ic_m1 ?_
      exact ww_iret C hR (dq dk_Runner_turnOff 65 rfl) h
    · refine ww_iconst C (dq dk_Runner_turnOff 52 rfl) ic_1 ?_
      refine ww_goto C 114 (dq dk_Runner_turnOff 53 rfl) (by decide) ?_
      refine ww_istore C [(5, .int 1), (0, .ref (ad k v0)), (1, .ref (ad k v1)), (2, .int v2), (4, .int v4)] hnL (lt_ rfl) rfl (dq dk_Runner_turnOff 55 rfl) ?_
      refine ww_aload_n C 1 rfl rfl (dq dk_Runner_turnOff 56 rfl) ?_
      refine ww_getr C ko_Runner 2 ho_v0 (lt_ rfl) g_2_126 rfl rfl (dq dk_Runner_turnOff 57 rfl) ?_
      refine ww_iload C 0 rfl (dq dk_Runner_turnOff 58 rfl) ?_
      refine ww_if_eq C 129 (dq dk_Runner_turnOff 59 rfl) (by decide) (ifn (by decide) h) (fun h => by cases h) (fun h => ?_)
      refine ww_iload_n C 3 rfl rfl (dq dk_Runner_turnOff 60 rfl) ?_
      refine ww_goto C 131 (dq dk_Runner_turnOff 61 rfl) (by decide) ?_
      refine ww_puti C ko_Machine 1 (kc_Runner_2 _ ho_v0) (lt_ rfl) g_2_67 rfl rfl rfl rfl (dq dk_Runner_turnOff 63 rfl) h (fun σ5 h => ?_)
      refine ww_iconst C (dq dk_Runner_turnOff 64 rfl) ic_m1 ?_
      exact ww_iret C hR (dq dk_Runner_turnOff 65 rfl) h
set_option maxHeartbeats 4000000 in
set_option maxRecDepth 100000 in
theorem t_Runner_turnOff_B69 {k : Cfg} {res : Int32 × St} (C : Cx k prog_10_method_5_code "BundleHouse$Runner") (hR : RI k .int res) (hRm : k.2.2.2.1 = rm_Runner_turnOff) (hnL : k.2.2.2.2.2.2.2.2.2.2.2.1 = 6) (v0 : Nat) (v1 : Nat) (v2 : Int32) (v3 : Int32) (t0 : Int32) (ho_v0 : kd v0 = 10) (ho_v1 : kd v1 = 4) (σ : St) (h : Runner_turnOff_B69 v0 v1 v2 v3 t0 σ = some res) : WW k 69 [(0, .ref (ad k v0)), (1, .ref (ad k v1)), (2, .int v2), (3, .int v3)] [.int t0] σ := by
  unfold Runner_turnOff_B69 at h
  refine ww_istore C [(4, .int t0), (0, .ref (ad k v0)), (1, .ref (ad k v1)), (2, .int v2), (3, .int v3)] hnL (lt_ rfl) rfl (dq dk_Runner_turnOff 34 rfl) ?_
  refine ww_iload_n C 4 rfl rfl (dq dk_Runner_turnOff 35 rfl) ?_
  refine ww_if_eq C 83 (dq dk_Runner_turnOff 36 rfl) (by decide) h (fun h => ?_) (fun h => ?_)
  · exact ww_lv [1, 2, 3, 0] rfl (t_Runner_turnOff_B83 C hR hRm hnL v0 v1 v2 t0 ho_v0 ho_v1 σ h)
  · refine ww_aload_n C 1 rfl rfl (dq dk_Runner_turnOff 37 rfl) ?_
    refine ww_getr C ko_Runner 2 ho_v0 (lt_ rfl) g_2_126 rfl rfl (dq dk_Runner_turnOff 38 rfl) ?_
    refine ww_iload_n C 3 rfl rfl (dq dk_Runner_turnOff 39 rfl) ?_
    refine ww_cVv (st := []) C (c_Machine_push (ch v0 2) (kc_Runner_2 _ ho_v0) v2) cw_Machine_push (kc_Runner_2 _ ho_v0) (lt_ rfl) rfl g_5_94 hRm ⟨⟨rfl, rfl⟩, le_ rfl, le_ rfl⟩ rfl rfl rfl (le_ rfl) (dq dk_Runner_turnOff 40 rfl) h (fun σ1 h => ?_)
    exact ww_lv [1, 2, 3, 0] rfl (t_Runner_turnOff_B83 C hR hRm hnL v0 v1 v2 t0 ho_v0 ho_v1 σ1 h)
set_option maxHeartbeats 4000000 in
set_option maxRecDepth 100000 in
theorem t_Runner_turnOff_B40 {k : Cfg} {res : Int32 × St} (C : Cx k prog_10_method_5_code "BundleHouse$Runner") (hR : RI k .int res) (hRm : k.2.2.2.1 = rm_Runner_turnOff) (hnL : k.2.2.2.2.2.2.2.2.2.2.2.1 = 6) (v0 : Nat) (v1 : Nat) (v2 : Int32) (v3 : Int32) (ho_v0 : kd v0 = 10) (ho_v1 : kd v1 = 4) (σ : St) (h : Runner_turnOff_B40 v0 v1 v2 v3 σ = some res) : WW k 40 [(0, .ref (ad k v0)), (1, .ref (ad k v1)), (2, .int v2), (3, .int v3)] [] σ := by
  unfold Runner_turnOff_B40 at h
  refine ww_aload_n C 1 rfl rfl (dq dk_Runner_turnOff 20 rfl) ?_
  refine ww_geti C ko_Instruction 1 ho_v1 (lt_ rfl) g_1_80 rfl rfl (dq dk_Runner_turnOff 21 rfl) ?_
  refine ww_bipush C (dq dk_Runner_turnOff 22 rfl) bp_8 ?_
  refine ww_icmp_ne C 58 (dq dk_Runner_turnOff 23 rfl) (by decide) h (fun h => ?_) (fun h => ?_)
  · refine ww_aload_n C 0 rfl rfl (dq dk_Runner_turnOff 29 rfl) ?_
    refine ww_getr C ko_Runner 2 ho_v0 (lt_ rfl) g_2_126 rfl rfl (dq dk_Runner_turnOff 30 rfl) ?_
    refine ww_aload_n C 1 rfl rfl (dq dk_Runner_turnOff 31 rfl) ?_
    refine ww_geti C ko_Instruction 2 ho_v1 (lt_ rfl) g_1_86 rfl rfl (dq dk_Runner_turnOff 32 rfl) ?_
    refine ww_cVi (st := []) C (c_Machine_registerAt (ch v0 2) (kc_Runner_2 _ ho_v0) (σ v1 2)) cw_Machine_registerAt (kc_Runner_2 _ ho_v0) (lt_ rfl) rfl g_5_90 hRm ⟨⟨rfl, rfl⟩, le_ rfl, le_ rfl⟩ rfl rfl rfl (le_ rfl) (dq dk_Runner_turnOff 33 rfl) h (fun x2 σ1 h => ?_)
    exact ww_lv [0, 1, 2, 3] rfl (t_Runner_turnOff_B69 C hR hRm hnL v0 v1 v2 v3 x2 ho_v0 ho_v1 σ1 h)
  · refine ww_iload_n C 2 rfl rfl (dq dk_Runner_turnOff 24 rfl) ?_
    refine ww_aload_n C 1 rfl rfl (dq dk_Runner_turnOff 25 rfl) ?_
    refine ww_geti C ko_Instruction 5 ho_v1 (lt_ rfl) g_1_100 rfl rfl (dq dk_Runner_turnOff 26 rfl) ?_
    refine ww_iadd C (dq dk_Runner_turnOff 27 rfl) ?_
    refine ww_goto C 69 (dq dk_Runner_turnOff 28 rfl) (by decide) ?_
    exact ww_lv [0, 1, 2, 3] rfl (t_Runner_turnOff_B69 C hR hRm hnL v0 v1 v2 v3 (v2 + (σ v1 5)) ho_v0 ho_v1 σ h)
set_option maxHeartbeats 4000000 in
set_option maxRecDepth 100000 in
theorem t_Runner_turnOff_B23 {k : Cfg} {res : Int32 × St} (C : Cx k prog_10_method_5_code "BundleHouse$Runner") (hR : RI k .int res) (hRm : k.2.2.2.1 = rm_Runner_turnOff) (hnL : k.2.2.2.2.2.2.2.2.2.2.2.1 = 6) (v0 : Nat) (v1 : Nat) (v2 : Int32) (t0 : Int32) (ho_v0 : kd v0 = 10) (ho_v1 : kd v1 = 4) (σ : St) (h : Runner_turnOff_B23 v0 v1 v2 t0 σ = some res) : WW k 23 [(0, .ref (ad k v0)), (1, .ref (ad k v1)), (2, .int v2)] [.int t0] σ := by
  unfold Runner_turnOff_B23 at h
  refine ww_istore_n C [(3, .int t0), (0, .ref (ad k v0)), (1, .ref (ad k v1)), (2, .int v2)] rfl hnL (lt_ rfl) rfl (dq dk_Runner_turnOff 11 rfl) ?_
  refine ww_iload_n C 0 rfl rfl (dq dk_Runner_turnOff 12 rfl) ?_
  refine ww_if_eq C 40 (dq dk_Runner_turnOff 13 rfl) (by decide) h (fun h => ?_) (fun h => ?_)
  · exact ww_lv [1, 2, 3, 0] rfl (t_Runner_turnOff_B40 C hR hRm hnL v0 v1 v2 t0 ho_v0 ho_v1 σ h)
  · refine ww_aload_n C 1 rfl rfl (dq dk_Runner_turnOff 14 rfl) ?_
    refine ww_getr C ko_Runner 2 ho_v0 (lt_ rfl) g_2_126 rfl rfl (dq dk_Runner_turnOff 15 rfl) ?_
    refine ww_cVi (st := []) C (c_Machine_canPush (ch v0 2) (kc_Runner_2 _ ho_v0)) cw_Machine_canPush (kc_Runner_2 _ ho_v0) (lt_ rfl) rfl g_5_86 hRm ⟨⟨rfl, rfl⟩, le_ rfl, le_ rfl⟩ rfl rfl rfl (le_ rfl) (dq dk_Runner_turnOff 16 rfl) h (fun x2 σ1 h => ?_)
    refine ww_if_ne C 40 (dq dk_Runner_turnOff 17 rfl) (by decide) h (fun h => ?_) (fun h => ?_)
    · exact ww_lv [1, 2, 3, 0] rfl (t_Runner_turnOff_B40 C hR hRm hnL v0 v1 v2 t0 ho_v0 ho_v1 σ1 h)
    · refine ww_iconst C (dq dk_Runner_turnOff 18 rfl) ic_3 ?_
      exact ww_iret C hR (dq dk_Runner_turnOff 19 rfl) h
set_option maxHeartbeats 4000000 in
set_option maxRecDepth 100000 in
theorem c_Runner_turnOff (v0 : Nat) (ho_v0 : kd v0 = 10) (v1 : Nat) (ho_v1 : kd v1 = 4) (v2 : Int32) : MI y_Runner_turnOff rm_Runner_turnOff prog_10_method_5_code 6 .int (fun a => [.ref (a v0), .ref (a v1), .int v2]) (Runner_turnOff v0 v1 v2) := by
  refine mi_of (by decide) (fun _ => le_ rfl) ?_
  intro k res σ C hR hRm hnL h
  unfold Runner_turnOff at h
  show WW k 0 [(0, .ref (ad k v0)), (1, .ref (ad k v1)), (2, .int v2)] [] σ
  refine ww_aload_n C 1 rfl rfl (dq dk_Runner_turnOff 0 rfl) ?_
  refine ww_geti C ko_Instruction 0 ho_v1 (lt_ rfl) g_1_72 rfl rfl (dq dk_Runner_turnOff 1 rfl) ?_
  refine ww_bipush C (dq dk_Runner_turnOff 2 rfl) bp_26 ?_
  refine ww_icmp_eq C 18 (dq dk_Runner_turnOff 3 rfl) (by decide) h (fun h => ?_) (fun h => ?_)
  · refine ww_iconst C (dq dk_Runner_turnOff 8 rfl) ic_1 ?_
    refine ww_goto C 23 (dq dk_Runner_turnOff 9 rfl) (by decide) ?_
    exact ww_lv [0, 1, 2] rfl (t_Runner_turnOff_B23 C hR hRm hnL v0 v1 v2 1 ho_v0 ho_v1 σ h)
  · refine ww_aload_n C 1 rfl rfl (dq dk_Runner_turnOff 4 rfl) ?_
    refine ww_geti C ko_Instruction 0 ho_v1 (lt_ rfl) g_1_72 rfl rfl (dq dk_Runner_turnOff 5 rfl) ?_
    refine ww_bipush C (dq dk_Runner_turnOff 6 rfl) bp_28 ?_
    refine ww_icmp_ne C 22 (dq dk_Runner_turnOff 7 rfl) (by decide) h (fun h => ?_) (fun h => ?_)
    · refine ww_iconst C (dq dk_Runner_turnOff 10 rfl) ic_0 ?_
      exact ww_lv [0, 1, 2] rfl (t_Runner_turnOff_B23 C hR hRm hnL v0 v1 v2 0 ho_v0 ho_v1 σ h)
    · refine ww_iconst C (dq dk_Runner_turnOff 8 rfl) ic_1 ?_
      refine ww_goto C 23 (dq dk_Runner_turnOff 9 rfl) (by decide) ?_
      exact ww_lv [0, 1, 2] rfl (t_Runner_turnOff_B23 C hR hRm hnL v0 v1 v2 1 ho_v0 ho_v1 σ h)
abbrev y_Runner_step : MethodName := ⟨"BundleHouse$Runner", "step", "(I)I"⟩
def dl_Runner_step : List (Nat × Instr × Nat) := [(0, .iload_n 1, 1), (1, .sipush 256, 3), (4, .isub, 1), (5, .istore_n 2, 1), (6, .iload_n 1, 1), (7, .sipush 256, 3), (10, .if_icmp .lt 14, 3), (13, .iload_n 2, 1), (14, .aload_n 0, 1), (15, .getfield 9, 3), (18, .getfield 60, 3), (21, .if_icmp .lt 5, 3), (24, .iconst 4, 1), (25, .ireturn, 1), (26, .aload_n 0, 1), (27, .getfield 15, 3), (30, .iload_n 2, 1), (31, .invokevirtual 65, 3), (34, .ifCond .eq 18, 3), (37, .aload_n 0, 1), (38, .getfield 15, 3), (41, .getfield 70, 3), (44, .getfield 74, 3), (47, .bipush 23, 2), (49, .if_icmp .ne 5, 3), (52, .iconst 5, 1), (53, .ireturn, 1), (54, .aload_n 0, 1), (55, .getfield 15, 3), (58, .getfield 70, 3), (61, .astore_n 3, 1), (62, .iload_n 1, 1), (63, .aload_n 3, 1), (64, .getfield 79, 3), (67, .iadd, 1), (68, .istore 4, 2), (70, .iconst 1, 1), (71, .istore 5, 2), (73, .aload_n 3, 1), (74, .getfield 74, 3), (77, .bipush 24, 2), (79, .if_icmp .lt 15, 3), (82, .aload_n 0, 1), (83, .aload_n 3, 1), (84, .iload 4, 2), (86, .invokevirtual 82, 3), (89, .istore 5, 2), (91, .goto 41, 3), (94, .aload_n 3, 1), (95, .getfield 74, 3), (98, .bipush 22, 2), (100, .if_icmp .eq 32, 3), (103, .aload_n 0, 1), (104, .getfield 19, 3), (107, .aload_n 3, 1), (108, .invokevirtual 86, 3), (111, .istore 5, 2), (113, .aload_n 0, 1), (114, .getfield 19, 3), (117, .iload 5, 2), (119, .iconst (-1), 1), (120, .if_icmp .ne 8, 3), (123, .iload 4, 2), (125, .goto 4, 3), (128, .iload_n 1, 1), (129, .putfield 23, 3), (132, .iload 5, 2), (134, .iconst (-1), 1), (135, .if_icmp .eq 9, 3), (138, .iload 5, 2), (140, .iconst 1, 1), (141, .if_icmp .ne 44, 3), (144, .aload_n 0, 1), (145, .getfield 19, 3), (148, .dup, 1), (149, .getfield 43, 3), (152, .iconst 1, 1), (153, .iadd, 1), (154, .putfield 43, 3), (157, .aload_n 0, 1), (158, .getfield 19, 3), (161, .dup, 1), (162, .getfield 90, 3), (165, .aload_n 0, 1), (166, .getfield 9, 3), (169, .iload_n 2, 1), (170, .invokevirtual 93, 3), (173, .ifCond .ne 7, 3), (176, .iconst 1, 1), (177, .goto 4, 3), (180, .iconst 0, 1), (181, .iadd, 1), (182, .putfield 90, 3), (185, .iload 5, 2), (187, .ireturn, 1)]
set_option maxRecDepth 100000 in
theorem dk_Runner_step : ∀ q ∈ dl_Runner_step, decode prog_10_method_4_code q.1 = .ok q.2 := by decide +kernel
abbrev rm_Runner_step : Room := { frames := 4, cells := 0, slots := 0, locals := 92 }
theorem cw_Runner_step : CWV y_Runner_step prog_10_method_4_code 6 (some .int) 1 := ⟨⟨g_5_80, g_1_11, by decide, by decide, by decide +kernel⟩, g_5_79, gs_3_7⟩
set_option maxHeartbeats 4000000 in
set_option maxRecDepth 100000 in
theorem t_Runner_step_B144 {k : Cfg} {res : Int32 × St} (C : Cx k prog_10_method_4_code "BundleHouse$Runner") (hR : RI k .int res) (hRm : k.2.2.2.1 = rm_Runner_step) (hnL : k.2.2.2.2.2.2.2.2.2.2.2.1 = 6) (v0 : Nat) (v2 : Int32) (v5 : Int32) (ho_v0 : kd v0 = 10) (σ : St) (h : Runner_step_B144 v0 v2 v5 σ = some res) : WW k 144 [(0, .ref (ad k v0)), (2, .int v2), (5, .int v5)] [] σ := by
  unfold Runner_step_B144 at h
  refine ww_aload_n C 0 rfl rfl (dq dk_Runner_step 72 rfl) ?_
  refine ww_getr C ko_Runner 2 ho_v0 (lt_ rfl) g_2_126 rfl rfl (dq dk_Runner_step 73 rfl) ?_
  refine ww_dup C rfl (dq dk_Runner_step 74 rfl) ?_
  refine ww_geti C ko_Machine 2 (kc_Runner_2 _ ho_v0) (lt_ rfl) g_2_71 rfl rfl (dq dk_Runner_step 75 rfl) ?_
  refine ww_iconst C (dq dk_Runner_step 76 rfl) ic_1 ?_
  refine ww_iadd C (dq dk_Runner_step 77 rfl) ?_
  refine ww_puti C ko_Machine 2 (kc_Runner_2 _ ho_v0) (lt_ rfl) g_2_71 rfl rfl rfl rfl (dq dk_Runner_step 78 rfl) h (fun σ1 h => ?_)
  refine ww_aload_n C 0 rfl rfl (dq dk_Runner_step 79 rfl) ?_
  refine ww_getr C ko_Runner 2 ho_v0 (lt_ rfl) g_2_126 rfl rfl (dq dk_Runner_step 80 rfl) ?_
  refine ww_dup C rfl (dq dk_Runner_step 81 rfl) ?_
  refine ww_geti C ko_Machine 4 (kc_Runner_2 _ ho_v0) (lt_ rfl) g_2_77 rfl rfl (dq dk_Runner_step 82 rfl) ?_
  refine ww_aload_n C 0 rfl rfl (dq dk_Runner_step 83 rfl) ?_
  refine ww_getr C ko_Runner 0 ho_v0 (lt_ rfl) g_2_124 rfl rfl (dq dk_Runner_step 84 rfl) ?_
  refine ww_iload_n C 1 rfl rfl (dq dk_Runner_step 85 rfl) ?_
  refine ww_cVi (st := [.int (σ1 (ch v0 2) 4), .ref (ad k (ch v0 2))]) C (c_Strip_markAt (ch v0 0) (kc_Runner_0 _ ho_v0) v2) cw_Strip_markAt (kc_Runner_0 _ ho_v0) (lt_ rfl) rfl g_5_173 hRm ⟨⟨rfl, rfl⟩, le_ rfl, le_ rfl⟩ rfl rfl rfl (le_ rfl) (dq dk_Runner_step 86 rfl) h (fun x3 σ2 h => ?_)
  refine ww_if_ne C 180 (dq dk_Runner_step 87 rfl) (by decide) h (fun h => ?_) (fun h => ?_)
  · refine ww_iconst C (dq dk_Runner_step 90 rfl) ic_0 ?_
    refine ww_iadd C (dq dk_Runner_step 91 rfl) ?_
    refine ww_puti C ko_Machine 4 (kc_Runner_2 _ ho_v0) (lt_ rfl) g_2_77 rfl rfl rfl rfl (dq dk_Runner_step 92 rfl) h (fun σ4 h => ?_)
    refine ww_iload C 2 rfl (dq dk_Runner_step 93 rfl) ?_
    exact ww_iret C hR (dq dk_Runner_step 94 rfl) h
  · refine ww_iconst C (dq dk_Runner_step 88 rfl) ic_1 ?_
    refine ww_goto C 181 (dq dk_Runner_step 89 rfl) (by decide) ?_
    refine ww_iadd C (dq dk_Runner_step 91 rfl) ?_
    refine ww_puti C ko_Machine 4 (kc_Runner_2 _ ho_v0) (lt_ rfl) g_2_77 rfl rfl rfl rfl (dq dk_Runner_step 92 rfl) h (fun σ5 h => ?_)
    refine ww_iload C 2 rfl (dq dk_Runner_step 93 rfl) ?_
    exact ww_iret C hR (dq dk_Runner_step 94 rfl) h
set_option maxHeartbeats 4000000 in
set_option maxRecDepth 100000 in
theorem c_Runner_step (v0 : Nat) (ho_v0 : kd v0 = 10) (v1 : Int32) : MI y_Runner_step rm_Runner_step prog_10_method_4_code 6 .int (fun a => [.ref (a v0), .int v1]) (Runner_step v0 v1) := by
  refine mi_of (by decide) (fun _ => le_ rfl) ?_
  intro k res σ C hR hRm hnL h
  unfold Runner_step at h
  show WW k 0 [(0, .ref (ad k v0)), (1, .int v1)] [] σ
  refine ww_iload_n C 1 rfl rfl (dq dk_Runner_step 0 rfl) ?_
  refine ww_sipush C (dq dk_Runner_step 1 rfl) sp_256 ?_
  refine ww_isub C (dq dk_Runner_step 2 rfl) ?_
  refine ww_nmi h (fun x1 h => ?_)
  refine ww_istore_n C [(2, .int x1), (0, .ref (ad k v0)), (1, .int v1)] rfl hnL (lt_ rfl) rfl (dq dk_Runner_step 3 rfl) ?_
  refine ww_iload_n C 2 rfl rfl (dq dk_Runner_step 4 rfl) ?_
  refine ww_sipush C (dq dk_Runner_step 5 rfl) sp_256 ?_
  refine ww_icmp_lt C 24 (dq dk_Runner_step 6 rfl) (by decide) h (fun h => ?_) (fun h => ?_)
  · refine ww_iconst C (dq dk_Runner_step 12 rfl) ic_4 ?_
    exact ww_iret C hR (dq dk_Runner_step 13 rfl) h
  · refine ww_iload_n C 0 rfl rfl (dq dk_Runner_step 7 rfl) ?_
    refine ww_aload_n C 1 rfl rfl (dq dk_Runner_step 8 rfl) ?_
    refine ww_getr C ko_Runner 0 ho_v0 (lt_ rfl) g_2_124 rfl rfl (dq dk_Runner_step 9 rfl) ?_
    refine ww_geti C ko_Strip 2 (kc_Runner_0 _ ho_v0) (lt_ rfl) g_1_43 rfl rfl (dq dk_Runner_step 10 rfl) ?_
    refine ww_icmp_lt C 26 (dq dk_Runner_step 11 rfl) (by decide) h (fun h => ?_) (fun h => ?_)
    · refine ww_aload_n C 1 rfl rfl (dq dk_Runner_step 14 rfl) ?_
      refine ww_getr C ko_Runner 1 ho_v0 (lt_ rfl) g_2_125 rfl rfl (dq dk_Runner_step 15 rfl) ?_
      refine ww_iload_n C 0 rfl rfl (dq dk_Runner_step 16 rfl) ?_
      refine ww_cVi (st := []) C (c_Reader_read (ch v0 1) (kc_Runner_1 _ ho_v0) x1) cw_Reader_read (kc_Runner_1 _ ho_v0) (lt_ rfl) rfl g_5_81 hRm ⟨⟨rfl, rfl⟩, le_ rfl, le_ rfl⟩ rfl rfl rfl (le_ rfl) (dq dk_Runner_step 17 rfl) h (fun x3 σ2 h => ?_)
      refine ww_if_eq C 52 (dq dk_Runner_step 18 rfl) (by decide) h (fun h => ?_) (fun h => ?_)
      · refine ww_iconst C (dq dk_Runner_step 25 rfl) ic_5 ?_
        exact ww_iret C hR (dq dk_Runner_step 26 rfl) h
      · refine ww_aload_n C 1 rfl rfl (dq dk_Runner_step 19 rfl) ?_
        refine ww_getr C ko_Runner 1 ho_v0 (lt_ rfl) g_2_125 rfl rfl (dq dk_Runner_step 20 rfl) ?_
        refine ww_getr C ko_Reader 0 (kc_Runner_1 _ ho_v0) (lt_ rfl) g_1_124 rfl rfl (dq dk_Runner_step 21 rfl) ?_
        refine ww_geti C ko_Instruction 0 (kc_Reader_0 _ (kc_Runner_1 _ ho_v0)) (lt_ rfl) g_1_72 rfl rfl (dq dk_Runner_step 22 rfl) ?_
        refine ww_bipush C (dq dk_Runner_step 23 rfl) bp_23 ?_
        refine ww_icmp_ne C 54 (dq dk_Runner_step 24 rfl) (by decide) h (fun h => ?_) (fun h => ?_)
        · refine ww_aload_n C 1 rfl rfl (dq dk_Runner_step 27 rfl) ?_
          refine ww_getr C ko_Runner 1 ho_v0 (lt_ rfl) g_2_125 rfl rfl (dq dk_Runner_step 28 rfl) ?_
          refine ww_getr C ko_Reader 0 (kc_Runner_1 _ ho_v0) (lt_ rfl) g_1_124 rfl rfl (dq dk_Runner_step 29 rfl) ?_
          refine ww_astore_n C [(3, .ref (ad k (ch (ch v0 1) 0))), (2, .int x1), (0, .ref (ad k v0)), (1, .int v1)] rfl hnL (lt_ rfl) rfl (dq dk_Runner_step 30 rfl) ?_
          refine ww_iload_n C 3 rfl rfl (dq dk_Runner_step 31 rfl) ?_
          refine ww_aload_n C 0 rfl rfl (dq dk_Runner_step 32 rfl) ?_
          refine ww_geti C ko_Instruction 6 (kc_Reader_0 _ (kc_Runner_1 _ ho_v0)) (lt_ rfl) g_1_105 rfl rfl (dq dk_Runner_step 33 rfl) ?_
          refine ww_iadd C (dq dk_Runner_step 34 rfl) ?_
          refine ww_nmi h (fun x4 h => ?_)
          refine ww_istore C [(4, .int x4), (3, .ref (ad k (ch (ch v0 1) 0))), (2, .int x1), (0, .ref (ad k v0)), (1, .int v1)] hnL (lt_ rfl) rfl (dq dk_Runner_step 35 rfl) ?_
          refine ww_iconst C (dq dk_Runner_step 36 rfl) ic_1 ?_
          refine ww_istore C [(5, .int 1), (4, .int x4), (3, .ref (ad k (ch (ch v0 1) 0))), (2, .int x1), (0, .ref (ad k v0)), (1, .int v1)] hnL (lt_ rfl) rfl (dq dk_Runner_step 37 rfl) ?_
          refine ww_aload_n C 2 rfl rfl (dq dk_Runner_step 38 rfl) ?_
          refine ww_geti C ko_Instruction 0 (kc_Reader_0 _ (kc_Runner_1 _ ho_v0)) (lt_ rfl) g_1_72 rfl rfl (dq dk_Runner_step 39 rfl) ?_
          refine ww_bipush C (dq dk_Runner_step 40 rfl) bp_24 ?_
          refine ww_icmp_lt C 94 (dq dk_Runner_step 41 rfl) (by decide) h (fun h => ?_) (fun h => ?_)
          · refine ww_aload_n C 2 rfl rfl (dq dk_Runner_step 48 rfl) ?_
            refine ww_geti C ko_Instruction 0 (kc_Reader_0 _ (kc_Runner_1 _ ho_v0)) (lt_ rfl) g_1_72 rfl rfl (dq dk_Runner_step 49 rfl) ?_
            refine ww_bipush C (dq dk_Runner_step 50 rfl) bp_22 ?_
            refine ww_icmp_eq C 132 (dq dk_Runner_step 51 rfl) (by decide) h (fun h => ?_) (fun h => ?_)
            · refine ww_iload C 0 rfl (dq dk_Runner_step 66 rfl) ?_
              refine ww_iconst C (dq dk_Runner_step 67 rfl) ic_m1 ?_
              refine ww_icmp_eq C 144 (dq dk_Runner_step 68 rfl) (by decide) (ifn (by decide) h) (fun h => by cases h) (fun h => ?_)
              refine ww_iload C 0 rfl (dq dk_Runner_step 69 rfl) ?_
              refine ww_iconst C (dq dk_Runner_step 70 rfl) ic_1 ?_
              refine ww_icmp_ne C 185 (dq dk_Runner_step 71 rfl) (by decide) (ifn (by decide) h) (fun h => by cases h) (fun h => ?_)
              exact ww_lv [4, 3, 0] rfl (t_Runner_step_B144 C hR hRm hnL v0 x1 1 ho_v0 σ2 h)
            · refine ww_aload_n C 4 rfl rfl (dq dk_Runner_step 52 rfl) ?_
              refine ww_getr C ko_Runner 2 ho_v0 (lt_ rfl) g_2_126 rfl rfl (dq dk_Runner_step 53 rfl) ?_
              refine ww_aload_n C 2 rfl rfl (dq dk_Runner_step 54 rfl) ?_
              refine ww_cVi (st := []) C (c_Machine_perform (ch v0 2) (kc_Runner_2 _ ho_v0) (ch (ch v0 1) 0) (kc_Reader_0 _ (kc_Runner_1 _ ho_v0))) cw_Machine_perform (kc_Runner_2 _ ho_v0) (lt_ rfl) rfl g_5_103 hRm ⟨⟨rfl, rfl⟩, le_ rfl, le_ rfl⟩ rfl rfl rfl (le_ rfl) (dq dk_Runner_step 55 rfl) h (fun x6 σ5 h => ?_)
              refine ww_istore C [(5, .int x6), (4, .int x4), (3, .ref (ad k (ch (ch v0 1) 0))), (2, .int x1), (0, .ref (ad k v0)), (1, .int v1)] hnL (lt_ rfl) rfl (dq dk_Runner_step 56 rfl) ?_
              refine ww_aload_n C 4 rfl rfl (dq dk_Runner_step 57 rfl) ?_
              refine ww_getr C ko_Runner 2 ho_v0 (lt_ rfl) g_2_126 rfl rfl (dq dk_Runner_step 58 rfl) ?_
              refine ww_iload C 0 rfl (dq dk_Runner_step 59 rfl) ?_
              refine ww_iconst C (dq dk_Runner_step 60 rfl) ic_m1 ?_
              refine ww_icmp_ne C 128 (dq dk_Runner_step 61 rfl) (by decide) h (fun h => ?_) (fun h => ?_)
              · refine ww_iload_n C 5 rfl rfl (dq dk_Runner_step 64 rfl) ?_
                refine ww_puti C ko_Machine 1 (kc_Runner_2 _ ho_v0) (lt_ rfl) g_2_67 rfl rfl rfl rfl (dq dk_Runner_step 65 rfl) h (fun σ7 h => ?_)
                refine ww_iload C 0 rfl (dq dk_Runner_step 66 rfl) ?_
                refine ww_iconst C (dq dk_Runner_step 67 rfl) ic_m1 ?_
                refine ww_icmp_eq C 144 (dq dk_Runner_step 68 rfl) (by decide) h (fun h => ?_) (fun h => ?_)
                · exact ww_lv [4, 3, 0] rfl (t_Runner_step_B144 C hR hRm hnL v0 x1 x6 ho_v0 σ7 h)
                · refine ww_iload C 0 rfl (dq dk_Runner_step 69 rfl) ?_
                  refine ww_iconst C (dq dk_Runner_step 70 rfl) ic_1 ?_
                  refine ww_icmp_ne C 185 (dq dk_Runner_step 71 rfl) (by decide) h (fun h => ?_) (fun h => ?_)
                  · refine ww_iload C 0 rfl (dq dk_Runner_step 93 rfl) ?_
                    exact ww_iret C hR (dq dk_Runner_step 94 rfl) h
                  · exact ww_lv [4, 3, 0] rfl (t_Runner_step_B144 C hR hRm hnL v0 x1 x6 ho_v0 σ7 h)
              · refine ww_iload C 1 rfl (dq dk_Runner_step 62 rfl) ?_
                refine ww_goto C 129 (dq dk_Runner_step 63 rfl) (by decide) ?_
                refine ww_puti C ko_Machine 1 (kc_Runner_2 _ ho_v0) (lt_ rfl) g_2_67 rfl rfl rfl rfl (dq dk_Runner_step 65 rfl) h (fun σ8 h => ?_)
                refine ww_iload C 0 rfl (dq dk_Runner_step 66 rfl) ?_
                refine ww_iconst C (dq dk_Runner_step 67 rfl) ic_m1 ?_
                refine ww_icmp_eq C 144 (dq dk_Runner_step 68 rfl) (by decide) h (fun h => ?_) (fun h => ?_)
                · exact ww_lv [4, 3, 0] rfl (t_Runner_step_B144 C hR hRm hnL v0 x1 x6 ho_v0 σ8 h)
                · refine ww_iload C 0 rfl (dq dk_Runner_step 69 rfl) ?_
                  refine ww_iconst C (dq dk_Runner_step 70 rfl) ic_1 ?_
                  refine ww_icmp_ne C 185 (dq dk_Runner_step 71 rfl) (by decide) h (fun h => ?_) (fun h => ?_)
                  · refine ww_iload C 0 rfl (dq dk_Runner_step 93 rfl) ?_
                    exact ww_iret C hR (dq dk_Runner_step 94 rfl) h
                  · exact ww_lv [4, 3, 0] rfl (t_Runner_step_B144 C hR hRm hnL v0 x1 x6 ho_v0 σ8 h)
          · refine ww_aload_n C 4 rfl rfl (dq dk_Runner_step 42 rfl) ?_
            refine ww_aload_n C 2 rfl rfl (dq dk_Runner_step 43 rfl) ?_
            refine ww_iload C 1 rfl (dq dk_Runner_step 44 rfl) ?_
            refine ww_cVi (st := []) C (c_Runner_turnOff v0 ho_v0 (ch (ch v0 1) 0) (kc_Reader_0 _ (kc_Runner_1 _ ho_v0)) x4) cw_Runner_turnOff ho_v0 (lt_ rfl) rfl g_5_82 hRm ⟨⟨rfl, rfl⟩, le_ rfl, le_ rfl⟩ rfl rfl rfl (le_ rfl) (dq dk_Runner_step 45 rfl) h (fun x10 σ9 h => ?_)
            refine ww_istore C [(5, .int x10), (4, .int x4), (3, .ref (ad k (ch (ch v0 1) 0))), (2, .int x1), (0, .ref (ad k v0)), (1, .int v1)] hnL (lt_ rfl) rfl (dq dk_Runner_step 46 rfl) ?_
            refine ww_goto C 132 (dq dk_Runner_step 47 rfl) (by decide) ?_
            refine ww_iload C 0 rfl (dq dk_Runner_step 66 rfl) ?_
            refine ww_iconst C (dq dk_Runner_step 67 rfl) ic_m1 ?_
            refine ww_icmp_eq C 144 (dq dk_Runner_step 68 rfl) (by decide) h (fun h => ?_) (fun h => ?_)
            · exact ww_lv [4, 3, 0] rfl (t_Runner_step_B144 C hR hRm hnL v0 x1 x10 ho_v0 σ9 h)
            · refine ww_iload C 0 rfl (dq dk_Runner_step 69 rfl) ?_
              refine ww_iconst C (dq dk_Runner_step 70 rfl) ic_1 ?_
              refine ww_icmp_ne C 185 (dq dk_Runner_step 71 rfl) (by decide) h (fun h => ?_) (fun h => ?_)
              · refine ww_iload C 0 rfl (dq dk_Runner_step 93 rfl) ?_
                exact ww_iret C hR (dq dk_Runner_step 94 rfl) h
              · exact ww_lv [4, 3, 0] rfl (t_Runner_step_B144 C hR hRm hnL v0 x1 x10 ho_v0 σ9 h)
        · refine ww_iconst C (dq dk_Runner_step 25 rfl) ic_5 ?_
          exact ww_iret C hR (dq dk_Runner_step 26 rfl) h
    · refine ww_iconst C (dq dk_Runner_step 12 rfl) ic_4 ?_
      exact ww_iret C hR (dq dk_Runner_step 13 rfl) h
abbrev y_Runner_goOn : MethodName := ⟨"BundleHouse$Runner", "goOn", "(I)I"⟩
def dl_Runner_goOn : List (Nat × Instr × Nat) := [(0, .iconst (-1), 1), (1, .istore_n 2, 1), (2, .iconst 0, 1), (3, .istore_n 3, 1), (4, .iload_n 3, 1), (5, .iload_n 1, 1), (6, .if_icmp .ge 53, 3), (9, .iload_n 2, 1), (10, .iconst (-1), 1), (11, .if_icmp .ne 48, 3), (14, .aload_n 0, 1), (15, .getfield 19, 3), (18, .getfield 23, 3), (21, .invokestatic 29, 3), (24, .ifCond .eq 17, 3), (27, .aload_n 0, 1), (28, .aload_n 0, 1), (29, .getfield 19, 3), (32, .getfield 23, 3), (35, .invokevirtual 33, 3), (38, .goto 14, 3), (41, .aload_n 0, 1), (42, .aload_n 0, 1), (43, .getfield 19, 3), (46, .getfield 23, 3), (49, .invokevirtual 37, 3), (52, .istore_n 2, 1), (53, .iinc 3 1, 3), (56, .goto (-52), 3), (59, .aload_n 0, 1), (60, .getfield 19, 3), (63, .iload_n 2, 1), (64, .iconst (-1), 1), (65, .if_icmp .ne 7, 3), (68, .iconst 0, 1), (69, .goto 4, 3), (72, .iload_n 2, 1), (73, .putfield 40, 3), (76, .aload_n 0, 1), (77, .getfield 19, 3), (80, .getfield 40, 3), (83, .ireturn, 1)]
set_option maxRecDepth 100000 in
theorem dk_Runner_goOn : ∀ q ∈ dl_Runner_goOn, decode prog_10_method_2_code q.1 = .ok q.2 := by decide +kernel
abbrev rm_Runner_goOn : Room := { frames := 5, cells := 0, slots := 0, locals := 117 }
theorem cw_Runner_goOn : CWV y_Runner_goOn prog_10_method_2_code 4 (some .int) 1 := ⟨⟨g_5_51, g_1_11, by decide, by decide, by decide +kernel⟩, g_5_49, g_5_50⟩
set_option maxHeartbeats 4000000 in
set_option maxRecDepth 100000 in
theorem t_Runner_goOn_B4 {k : Cfg} {res : Int32 × St} (C : Cx k prog_10_method_2_code "BundleHouse$Runner") (hR : RI k .int res) (hRm : k.2.2.2.1 = rm_Runner_goOn) (hnL : k.2.2.2.2.2.2.2.2.2.2.2.1 = 4) : ∀ (n : Nat) (v0 : Nat) (v1 : Int32) (v2 : Int32) (v3 : Int32) (ho_v0 : kd v0 = 10) (σ : St), Runner_goOn_B4 n v0 v1 v2 v3 σ = some res → WW k 4 [(0, .ref (ad k v0)), (1, .int v1), (2, .int v2), (3, .int v3)] [] σ := by
  intro n
  induction n with
  | zero =>
    intro v0 v1 v2 v3 ho_v0 σ h
    have h : (none : Option (Int32 × St)) = some res := h
    cases h
  | succ n ih =>
    intro v0 v1 v2 v3 ho_v0 σ h
    unfold Runner_goOn_B4 at h
    refine ww_iload_n C 3 rfl rfl (dq dk_Runner_goOn 4 rfl) ?_
    refine ww_iload_n C 1 rfl rfl (dq dk_Runner_goOn 5 rfl) ?_
    refine ww_icmp_ge C 59 (dq dk_Runner_goOn 6 rfl) (by decide) h (fun h => ?_) (fun h => ?_)
    · refine ww_aload_n C 0 rfl rfl (dq dk_Runner_goOn 29 rfl) ?_
      refine ww_getr C ko_Runner 2 ho_v0 (lt_ rfl) g_2_126 rfl rfl (dq dk_Runner_goOn 30 rfl) ?_
      refine ww_iload_n C 2 rfl rfl (dq dk_Runner_goOn 31 rfl) ?_
      refine ww_iconst C (dq dk_Runner_goOn 32 rfl) ic_m1 ?_
      refine ww_icmp_ne C 72 (dq dk_Runner_goOn 33 rfl) (by decide) h (fun h => ?_) (fun h => ?_)
      · refine ww_iload_n C 2 rfl rfl (dq dk_Runner_goOn 36 rfl) ?_
        refine ww_puti C ko_Machine 3 (kc_Runner_2 _ ho_v0) (lt_ rfl) g_2_73 rfl rfl rfl rfl (dq dk_Runner_goOn 37 rfl) h (fun σ1 h => ?_)
        refine ww_aload_n C 0 rfl rfl (dq dk_Runner_goOn 38 rfl) ?_
        refine ww_getr C ko_Runner 2 ho_v0 (lt_ rfl) g_2_126 rfl rfl (dq dk_Runner_goOn 39 rfl) ?_
        refine ww_geti C ko_Machine 3 (kc_Runner_2 _ ho_v0) (lt_ rfl) g_2_73 rfl rfl (dq dk_Runner_goOn 40 rfl) ?_
        exact ww_iret C hR (dq dk_Runner_goOn 41 rfl) h
      · refine ww_iconst C (dq dk_Runner_goOn 34 rfl) ic_0 ?_
        refine ww_goto C 73 (dq dk_Runner_goOn 35 rfl) (by decide) ?_
        refine ww_puti C ko_Machine 3 (kc_Runner_2 _ ho_v0) (lt_ rfl) g_2_73 rfl rfl rfl rfl (dq dk_Runner_goOn 37 rfl) h (fun σ2 h => ?_)
        refine ww_aload_n C 0 rfl rfl (dq dk_Runner_goOn 38 rfl) ?_
        refine ww_getr C ko_Runner 2 ho_v0 (lt_ rfl) g_2_126 rfl rfl (dq dk_Runner_goOn 39 rfl) ?_
        refine ww_geti C ko_Machine 3 (kc_Runner_2 _ ho_v0) (lt_ rfl) g_2_73 rfl rfl (dq dk_Runner_goOn 40 rfl) ?_
        exact ww_iret C hR (dq dk_Runner_goOn 41 rfl) h
    · refine ww_iload_n C 2 rfl rfl (dq dk_Runner_goOn 7 rfl) ?_
      refine ww_iconst C (dq dk_Runner_goOn 8 rfl) ic_m1 ?_
      refine ww_icmp_ne C 59 (dq dk_Runner_goOn 9 rfl) (by decide) h (fun h => ?_) (fun h => ?_)
      · refine ww_aload_n C 0 rfl rfl (dq dk_Runner_goOn 29 rfl) ?_
        refine ww_getr C ko_Runner 2 ho_v0 (lt_ rfl) g_2_126 rfl rfl (dq dk_Runner_goOn 30 rfl) ?_
        refine ww_iload_n C 2 rfl rfl (dq dk_Runner_goOn 31 rfl) ?_
        refine ww_iconst C (dq dk_Runner_goOn 32 rfl) ic_m1 ?_
        refine ww_icmp_ne C 72 (dq dk_Runner_goOn 33 rfl) (by decide) h (fun h => ?_) (fun h => ?_)
        · refine ww_iload_n C 2 rfl rfl (dq dk_Runner_goOn 36 rfl) ?_
          refine ww_puti C ko_Machine 3 (kc_Runner_2 _ ho_v0) (lt_ rfl) g_2_73 rfl rfl rfl rfl (dq dk_Runner_goOn 37 rfl) h (fun σ3 h => ?_)
          refine ww_aload_n C 0 rfl rfl (dq dk_Runner_goOn 38 rfl) ?_
          refine ww_getr C ko_Runner 2 ho_v0 (lt_ rfl) g_2_126 rfl rfl (dq dk_Runner_goOn 39 rfl) ?_
          refine ww_geti C ko_Machine 3 (kc_Runner_2 _ ho_v0) (lt_ rfl) g_2_73 rfl rfl (dq dk_Runner_goOn 40 rfl) ?_
          exact ww_iret C hR (dq dk_Runner_goOn 41 rfl) h
        · refine ww_iconst C (dq dk_Runner_goOn 34 rfl) ic_0 ?_
          refine ww_goto C 73 (dq dk_Runner_goOn 35 rfl) (by decide) ?_
          refine ww_puti C ko_Machine 3 (kc_Runner_2 _ ho_v0) (lt_ rfl) g_2_73 rfl rfl rfl rfl (dq dk_Runner_goOn 37 rfl) h (fun σ4 h => ?_)
          refine ww_aload_n C 0 rfl rfl (dq dk_Runner_goOn 38 rfl) ?_
          refine ww_getr C ko_Runner 2 ho_v0 (lt_ rfl) g_2_126 rfl rfl (dq dk_Runner_goOn 39 rfl) ?_
          refine ww_geti C ko_Machine 3 (kc_Runner_2 _ ho_v0) (lt_ rfl) g_2_73 rfl rfl (dq dk_Runner_goOn 40 rfl) ?_
          exact ww_iret C hR (dq dk_Runner_goOn 41 rfl) h
      · refine ww_aload_n C 0 rfl rfl (dq dk_Runner_goOn 10 rfl) ?_
        refine ww_getr C ko_Runner 2 ho_v0 (lt_ rfl) g_2_126 rfl rfl (dq dk_Runner_goOn 11 rfl) ?_
        refine ww_geti C ko_Machine 1 (kc_Runner_2 _ ho_v0) (lt_ rfl) g_2_67 rfl rfl (dq dk_Runner_goOn 12 rfl) ?_
        refine ww_cNi (st := []) C (c_House_isService (σ (ch v0 2) 1)) cw_House_isService nw_17 hRm ⟨⟨rfl, rfl⟩, le_ rfl, le_ rfl⟩ rfl rfl rfl (le_ rfl) (dq dk_Runner_goOn 13 rfl) h (fun x6 σ5 h => ?_)
        refine ww_if_eq C 41 (dq dk_Runner_goOn 14 rfl) (by decide) h (fun h => ?_) (fun h => ?_)
        · refine ww_aload_n C 0 rfl rfl (dq dk_Runner_goOn 21 rfl) ?_
          refine ww_aload_n C 0 rfl rfl (dq dk_Runner_goOn 22 rfl) ?_
          refine ww_getr C ko_Runner 2 ho_v0 (lt_ rfl) g_2_126 rfl rfl (dq dk_Runner_goOn 23 rfl) ?_
          refine ww_geti C ko_Machine 1 (kc_Runner_2 _ ho_v0) (lt_ rfl) g_2_67 rfl rfl (dq dk_Runner_goOn 24 rfl) ?_
          refine ww_cVi (st := []) C (c_Runner_step v0 ho_v0 (σ5 (ch v0 2) 1)) cw_Runner_step ho_v0 (lt_ rfl) rfl g_5_77 hRm ⟨⟨rfl, rfl⟩, le_ rfl, le_ rfl⟩ rfl rfl rfl (le_ rfl) (dq dk_Runner_goOn 25 rfl) h (fun x8 σ7 h => ?_)
          refine ww_istore_n C [(2, .int x8), (0, .ref (ad k v0)), (1, .int v1), (3, .int v3)] rfl hnL (lt_ rfl) rfl (dq dk_Runner_goOn 26 rfl) ?_
          refine ww_iinc C 3 (fun z => [(3, .int z), (2, .int x8), (0, .ref (ad k v0)), (1, .int v1)]) rfl ic_1 hnL (lt_ rfl) (fun _ => rfl) (dq dk_Runner_goOn 27 rfl) h (fun x9 h => ?_)
          refine ww_goto C 4 (dq dk_Runner_goOn 28 rfl) (by decide) ?_
          exact ww_lv [2, 3, 1, 0] rfl (ih v0 v1 x8 x9 ho_v0 σ7 h)
        · refine ww_aload_n C 0 rfl rfl (dq dk_Runner_goOn 15 rfl) ?_
          refine ww_aload_n C 0 rfl rfl (dq dk_Runner_goOn 16 rfl) ?_
          refine ww_getr C ko_Runner 2 ho_v0 (lt_ rfl) g_2_126 rfl rfl (dq dk_Runner_goOn 17 rfl) ?_
          refine ww_geti C ko_Machine 1 (kc_Runner_2 _ ho_v0) (lt_ rfl) g_2_67 rfl rfl (dq dk_Runner_goOn 18 rfl) ?_
          refine ww_cVi (st := []) C (c_Runner_serve v0 ho_v0 (σ5 (ch v0 2) 1)) cw_Runner_serve ho_v0 (lt_ rfl) rfl g_5_53 hRm ⟨⟨rfl, rfl⟩, le_ rfl, le_ rfl⟩ rfl rfl rfl (le_ rfl) (dq dk_Runner_goOn 19 rfl) h (fun x11 σ10 h => ?_)
          refine ww_goto C 52 (dq dk_Runner_goOn 20 rfl) (by decide) ?_
          refine ww_istore_n C [(2, .int x11), (0, .ref (ad k v0)), (1, .int v1), (3, .int v3)] rfl hnL (lt_ rfl) rfl (dq dk_Runner_goOn 26 rfl) ?_
          refine ww_iinc C 3 (fun z => [(3, .int z), (2, .int x11), (0, .ref (ad k v0)), (1, .int v1)]) rfl ic_1 hnL (lt_ rfl) (fun _ => rfl) (dq dk_Runner_goOn 27 rfl) h (fun x12 h => ?_)
          refine ww_goto C 4 (dq dk_Runner_goOn 28 rfl) (by decide) ?_
          exact ww_lv [2, 3, 1, 0] rfl (ih v0 v1 x11 x12 ho_v0 σ10 h)
set_option maxHeartbeats 4000000 in
set_option maxRecDepth 100000 in
theorem c_Runner_goOn (v0 : Nat) (ho_v0 : kd v0 = 10) (v1 : Int32) : MI y_Runner_goOn rm_Runner_goOn prog_10_method_2_code 4 .int (fun a => [.ref (a v0), .int v1]) (Runner_goOn v0 v1) := by
  refine mi_of (by decide) (fun _ => le_ rfl) ?_
  intro k res σ C hR hRm hnL h
  unfold Runner_goOn at h
  show WW k 0 [(0, .ref (ad k v0)), (1, .int v1)] [] σ
  refine ww_iconst C (dq dk_Runner_goOn 0 rfl) ic_m1 ?_
  refine ww_istore_n C [(2, .int (-1)), (0, .ref (ad k v0)), (1, .int v1)] rfl hnL (lt_ rfl) rfl (dq dk_Runner_goOn 1 rfl) ?_
  refine ww_iconst C (dq dk_Runner_goOn 2 rfl) ic_0 ?_
  refine ww_istore_n C [(3, .int 0), (2, .int (-1)), (0, .ref (ad k v0)), (1, .int v1)] rfl hnL (lt_ rfl) rfl (dq dk_Runner_goOn 3 rfl) ?_
  exact ww_lv [2, 3, 1, 0] rfl (t_Runner_goOn_B4 C hR hRm hnL FU v0 v1 (-1) 0 ho_v0 σ h)
abbrev y_Walker_goTo : MethodName := ⟨"BundleHouse$Walker", "goTo", "(I)I"⟩
def dl_Walker_goTo : List (Nat × Instr × Nat) := [(0, .aload_n 0, 1), (1, .getfield 22, 3), (4, .dup, 1), (5, .getfield 75, 3), (8, .iconst 1, 1), (9, .iadd, 1), (10, .putfield 75, 3), (13, .aload_n 0, 1), (14, .iload_n 1, 1), (15, .ifCond .ge 7, 3), (18, .iload_n 1, 1), (19, .goto 11, 3), (22, .aload_n 0, 1), (23, .getfield 18, 3), (26, .iload_n 1, 1), (27, .invokevirtual 26, 3), (30, .putfield 32, 3), (33, .iconst (-1), 1), (34, .ireturn, 1)]
set_option maxRecDepth 100000 in
theorem dk_Walker_goTo : ∀ q ∈ dl_Walker_goTo, decode prog_12_method_3_code q.1 = .ok q.2 := by decide +kernel
abbrev rm_Walker_goTo : Room := { frames := 2, cells := 0, slots := 0, locals := 43 }
theorem cw_Walker_goTo : CWV y_Walker_goTo prog_12_method_3_code 2 (some .int) 1 := ⟨⟨g_5_213, g_1_12, by decide, by decide, by decide +kernel⟩, g_5_212, gs_4_7⟩
set_option maxHeartbeats 4000000 in
set_option maxRecDepth 100000 in
theorem c_Walker_goTo (v0 : Nat) (ho_v0 : kd v0 = 11) (v1 : Int32) : MI y_Walker_goTo rm_Walker_goTo prog_12_method_3_code 2 .int (fun a => [.ref (a v0), .int v1]) (Walker_goTo v0 v1) := by
  refine mi_of (by decide) (fun _ => le_ rfl) ?_
  intro k res σ C hR hRm hnL h
  unfold Walker_goTo at h
  show WW k 0 [(0, .ref (ad k v0)), (1, .int v1)] [] σ
  refine ww_aload_n C 0 rfl rfl (dq dk_Walker_goTo 0 rfl) ?_
  refine ww_getr C ko_Walker 1 ho_v0 (lt_ rfl) g_2_143 rfl rfl (dq dk_Walker_goTo 1 rfl) ?_
  refine ww_dup C rfl (dq dk_Walker_goTo 2 rfl) ?_
  refine ww_geti C ko_Machine 2 (kc_Walker_1 _ ho_v0) (lt_ rfl) g_2_70 rfl rfl (dq dk_Walker_goTo 3 rfl) ?_
  refine ww_iconst C (dq dk_Walker_goTo 4 rfl) ic_1 ?_
  refine ww_iadd C (dq dk_Walker_goTo 5 rfl) ?_
  refine ww_puti C ko_Machine 2 (kc_Walker_1 _ ho_v0) (lt_ rfl) g_2_70 rfl rfl rfl rfl (dq dk_Walker_goTo 6 rfl) h (fun σ1 h => ?_)
  refine ww_aload_n C 0 rfl rfl (dq dk_Walker_goTo 7 rfl) ?_
  refine ww_iload_n C 1 rfl rfl (dq dk_Walker_goTo 8 rfl) ?_
  refine ww_if_ge C 22 (dq dk_Walker_goTo 9 rfl) (by decide) h (fun h => ?_) (fun h => ?_)
  · refine ww_aload_n C 0 rfl rfl (dq dk_Walker_goTo 12 rfl) ?_
    refine ww_getr C ko_Walker 0 ho_v0 (lt_ rfl) g_2_142 rfl rfl (dq dk_Walker_goTo 13 rfl) ?_
    refine ww_iload_n C 1 rfl rfl (dq dk_Walker_goTo 14 rfl) ?_
    refine ww_cVi (st := [.ref (ad k v0)]) C (c_Program_pastLabels (ch v0 0) (kc_Walker_0 _ ho_v0) v1) cw_Program_pastLabels (kc_Walker_0 _ ho_v0) (lt_ rfl) rfl g_5_186 hRm ⟨⟨rfl, rfl⟩, le_ rfl, le_ rfl⟩ rfl rfl rfl (le_ rfl) (dq dk_Walker_goTo 15 rfl) h (fun x3 σ2 h => ?_)
    refine ww_puti C ko_Walker 3 ho_v0 (lt_ rfl) g_2_145 rfl rfl rfl rfl (dq dk_Walker_goTo 16 rfl) h (fun σ4 h => ?_)
    refine ww_iconst C (dq dk_Walker_goTo 17 rfl) ic_m1 ?_
    exact ww_iret C hR (dq dk_Walker_goTo 18 rfl) h
  · refine ww_iload_n C 1 rfl rfl (dq dk_Walker_goTo 10 rfl) ?_
    refine ww_goto C 30 (dq dk_Walker_goTo 11 rfl) (by decide) ?_
    refine ww_puti C ko_Walker 3 ho_v0 (lt_ rfl) g_2_145 rfl rfl rfl rfl (dq dk_Walker_goTo 16 rfl) h (fun σ5 h => ?_)
    refine ww_iconst C (dq dk_Walker_goTo 17 rfl) ic_m1 ?_
    exact ww_iret C hR (dq dk_Walker_goTo 18 rfl) h
abbrev y_Walker_standStill : MethodName := ⟨"BundleHouse$Walker", "standStill", "(I)I"⟩
def dl_Walker_standStill : List (Nat × Instr × Nat) := [(0, .aload_n 0, 1), (1, .getfield 22, 3), (4, .dup, 1), (5, .getfield 75, 3), (8, .iconst 1, 1), (9, .iadd, 1), (10, .putfield 75, 3), (13, .iload_n 1, 1), (14, .ireturn, 1)]
set_option maxRecDepth 100000 in
theorem dk_Walker_standStill : ∀ q ∈ dl_Walker_standStill, decode prog_12_method_4_code q.1 = .ok q.2 := by decide +kernel
abbrev rm_Walker_standStill : Room := { frames := 0, cells := 0, slots := 0, locals := 0 }
theorem cw_Walker_standStill : CWV y_Walker_standStill prog_12_method_4_code 2 (some .int) 1 := ⟨⟨g_5_198, g_1_12, by decide, by decide, by decide +kernel⟩, g_5_197, gs_4_6⟩
set_option maxHeartbeats 4000000 in
set_option maxRecDepth 100000 in
theorem c_Walker_standStill (v0 : Nat) (ho_v0 : kd v0 = 11) (v1 : Int32) : MI y_Walker_standStill rm_Walker_standStill prog_12_method_4_code 2 .int (fun a => [.ref (a v0), .int v1]) (Walker_standStill v0 v1) := by
  refine mi_of (by decide) (fun _ => le_ rfl) ?_
  intro k res σ C hR hRm hnL h
  unfold Walker_standStill at h
  show WW k 0 [(0, .ref (ad k v0)), (1, .int v1)] [] σ
  refine ww_aload_n C 0 rfl rfl (dq dk_Walker_standStill 0 rfl) ?_
  refine ww_getr C ko_Walker 1 ho_v0 (lt_ rfl) g_2_143 rfl rfl (dq dk_Walker_standStill 1 rfl) ?_
  refine ww_dup C rfl (dq dk_Walker_standStill 2 rfl) ?_
  refine ww_geti C ko_Machine 2 (kc_Walker_1 _ ho_v0) (lt_ rfl) g_2_70 rfl rfl (dq dk_Walker_standStill 3 rfl) ?_
  refine ww_iconst C (dq dk_Walker_standStill 4 rfl) ic_1 ?_
  refine ww_iadd C (dq dk_Walker_standStill 5 rfl) ?_
  refine ww_puti C ko_Machine 2 (kc_Walker_1 _ ho_v0) (lt_ rfl) g_2_70 rfl rfl rfl rfl (dq dk_Walker_standStill 6 rfl) h (fun σ1 h => ?_)
  refine ww_iload_n C 1 rfl rfl (dq dk_Walker_standStill 7 rfl) ?_
  exact ww_iret C hR (dq dk_Walker_standStill 8 rfl) h
