abbrev y_Walker_serve : MethodName := ⟨"BundleHouse$Walker", "serve", "(I)I"⟩
def dl_Walker_serve : List (Nat × Instr × Nat) := [(0, .iload_n 1, 1), (1, .ifCond .ne 9, 3), (4, .aload_n 0, 1), (5, .iconst 2, 1), (6, .invokevirtual 43, 3), (9, .ireturn, 1), (10, .aload_n 0, 1), (11, .getfield 22, 3), (14, .invokevirtual 78, 3), (17, .ifCond .ne 5, 3), (20, .iconst 3, 1), (21, .ireturn, 1), (22, .aload_n 0, 1), (23, .getfield 18, 3), (26, .aload_n 0, 1), (27, .getfield 22, 3), (30, .aload_n 0, 1), (31, .getfield 22, 3), (34, .iconst 4, 1), (35, .invokevirtual 82, 3), (38, .invokevirtual 85, 3), (41, .invokevirtual 88, 3), (44, .istore_n 2, 1), (45, .iload_n 2, 1), (46, .bipush (-100), 2), (48, .if_icmp .ne 6, 3), (51, .bipush 9, 2), (53, .ireturn, 1), (54, .aload_n 0, 1), (55, .getfield 22, 3), (58, .iload_n 1, 1), (59, .invokevirtual 91, 3), (62, .ifCond .eq 6, 3), (65, .bipush 6, 2), (67, .ireturn, 1), (68, .aload_n 0, 1), (69, .getfield 22, 3), (72, .iload_n 1, 1), (73, .invokevirtual 94, 3), (76, .aload_n 0, 1), (77, .getfield 22, 3), (80, .invokevirtual 97, 3), (83, .pop, 1), (84, .aload_n 0, 1), (85, .iload_n 2, 1), (86, .invokevirtual 100, 3), (89, .ireturn, 1)]
set_option maxRecDepth 100000 in
theorem dk_Walker_serve : ∀ q ∈ dl_Walker_serve, decode prog_12_method_5_code q.1 = .ok q.2 := by decide +kernel
abbrev rm_Walker_serve : Room := { frames := 3, cells := 0, slots := 0, locals := 64 }
theorem cw_Walker_serve : CWV y_Walker_serve prog_12_method_5_code 3 (some .int) 1 := ⟨⟨g_5_194, g_1_12, by decide, by decide, by decide +kernel⟩, g_5_193, gs_4_5⟩
set_option maxHeartbeats 4000000 in
set_option maxRecDepth 100000 in
theorem c_Walker_serve (v0 : Nat) (ho_v0 : kd v0 = 11) (v1 : Int32) : MI y_Walker_serve rm_Walker_serve prog_12_method_5_code 3 .int (fun a => [.ref (a v0), .int v1]) (Walker_serve v0 v1) := by
  refine mi_of (by decide) (fun _ => le_ rfl) ?_
  intro k res σ C hR hRm hnL h
  unfold Walker_serve at h
  show WW k 0 [(0, .ref (ad k v0)), (1, .int v1)] [] σ
  refine ww_iload_n C 1 rfl rfl (dq dk_Walker_serve 0 rfl) ?_
  refine ww_if_ne C 10 (dq dk_Walker_serve 1 rfl) (by decide) h (fun h => ?_) (fun h => ?_)
  · refine ww_aload_n C 0 rfl rfl (dq dk_Walker_serve 6 rfl) ?_
    refine ww_getr C ko_Walker 1 ho_v0 (lt_ rfl) g_2_143 rfl rfl (dq dk_Walker_serve 7 rfl) ?_
    refine ww_cVi (st := []) C (c_Machine_canPop (ch v0 1) (kc_Walker_1 _ ho_v0)) cw_Machine_canPop (kc_Walker_1 _ ho_v0) (lt_ rfl) rfl g_5_199 hRm ⟨⟨rfl, rfl⟩, le_ rfl, le_ rfl⟩ rfl rfl rfl (le_ rfl) (dq dk_Walker_serve 8 rfl) h (fun x2 σ1 h => ?_)
    refine ww_if_ne C 22 (dq dk_Walker_serve 9 rfl) (by decide) h (fun h => ?_) (fun h => ?_)
    · refine ww_aload_n C 0 rfl rfl (dq dk_Walker_serve 12 rfl) ?_
      refine ww_getr C ko_Walker 0 ho_v0 (lt_ rfl) g_2_142 rfl rfl (dq dk_Walker_serve 13 rfl) ?_
      refine ww_aload_n C 0 rfl rfl (dq dk_Walker_serve 14 rfl) ?_
      refine ww_getr C ko_Walker 1 ho_v0 (lt_ rfl) g_2_143 rfl rfl (dq dk_Walker_serve 15 rfl) ?_
      refine ww_aload_n C 0 rfl rfl (dq dk_Walker_serve 16 rfl) ?_
      refine ww_getr C ko_Walker 1 ho_v0 (lt_ rfl) g_2_143 rfl rfl (dq dk_Walker_serve 17 rfl) ?_
      refine ww_iconst C (dq dk_Walker_serve 18 rfl) ic_4 ?_
      refine ww_cVi (st := [.ref (ad k (ch v0 1)), .ref (ad k (ch v0 0))]) C (c_Machine_registerAt (ch v0 1) (kc_Walker_1 _ ho_v0) 4) cw_Machine_registerAt (kc_Walker_1 _ ho_v0) (lt_ rfl) rfl g_5_200 hRm ⟨⟨rfl, rfl⟩, le_ rfl, le_ rfl⟩ rfl rfl rfl (le_ rfl) (dq dk_Walker_serve 19 rfl) h (fun x4 σ3 h => ?_)
      refine ww_cVi (st := [.ref (ad k (ch v0 0))]) C (c_Machine_wordAt (ch v0 1) (kc_Walker_1 _ ho_v0) x4) cw_Machine_wordAt (kc_Walker_1 _ ho_v0) (lt_ rfl) rfl g_5_201 hRm ⟨⟨rfl, rfl⟩, le_ rfl, le_ rfl⟩ rfl rfl rfl (le_ rfl) (dq dk_Walker_serve 20 rfl) h (fun x6 σ5 h => ?_)
      refine ww_cVi (st := []) C (c_Program_landingAt (ch v0 0) (kc_Walker_0 _ ho_v0) x6) cw_Program_landingAt (kc_Walker_0 _ ho_v0) (lt_ rfl) rfl g_5_202 hRm ⟨⟨rfl, rfl⟩, le_ rfl, le_ rfl⟩ rfl rfl rfl (le_ rfl) (dq dk_Walker_serve 21 rfl) h (fun x8 σ7 h => ?_)
      refine ww_istore_n C [(2, .int x8), (0, .ref (ad k v0)), (1, .int v1)] rfl hnL (lt_ rfl) rfl (dq dk_Walker_serve 22 rfl) ?_
      refine ww_iload_n C 0 rfl rfl (dq dk_Walker_serve 23 rfl) ?_
      refine ww_bipush C (dq dk_Walker_serve 24 rfl) bp_m100 ?_
      refine ww_icmp_ne C 54 (dq dk_Walker_serve 25 rfl) (by decide) h (fun h => ?_) (fun h => ?_)
      · refine ww_aload_n C 1 rfl rfl (dq dk_Walker_serve 28 rfl) ?_
        refine ww_getr C ko_Walker 1 ho_v0 (lt_ rfl) g_2_143 rfl rfl (dq dk_Walker_serve 29 rfl) ?_
        refine ww_iload_n C 2 rfl rfl (dq dk_Walker_serve 30 rfl) ?_
        refine ww_cVi (st := []) C (c_Machine_isFullFor (ch v0 1) (kc_Walker_1 _ ho_v0) v1) cw_Machine_isFullFor (kc_Walker_1 _ ho_v0) (lt_ rfl) rfl g_5_207 hRm ⟨⟨rfl, rfl⟩, le_ rfl, le_ rfl⟩ rfl rfl rfl (le_ rfl) (dq dk_Walker_serve 31 rfl) h (fun x10 σ9 h => ?_)
        refine ww_if_eq C 68 (dq dk_Walker_serve 32 rfl) (by decide) h (fun h => ?_) (fun h => ?_)
        · refine ww_aload_n C 1 rfl rfl (dq dk_Walker_serve 35 rfl) ?_
          refine ww_getr C ko_Walker 1 ho_v0 (lt_ rfl) g_2_143 rfl rfl (dq dk_Walker_serve 36 rfl) ?_
          refine ww_iload_n C 2 rfl rfl (dq dk_Walker_serve 37 rfl) ?_
          refine ww_cVv (st := []) C (c_Machine_serve (ch v0 1) (kc_Walker_1 _ ho_v0) v1) cw_Machine_serve (kc_Walker_1 _ ho_v0) (lt_ rfl) rfl g_5_208 hRm ⟨⟨rfl, rfl⟩, le_ rfl, le_ rfl⟩ rfl rfl rfl (le_ rfl) (dq dk_Walker_serve 38 rfl) h (fun σ11 h => ?_)
          refine ww_aload_n C 1 rfl rfl (dq dk_Walker_serve 39 rfl) ?_
          refine ww_getr C ko_Walker 1 ho_v0 (lt_ rfl) g_2_143 rfl rfl (dq dk_Walker_serve 40 rfl) ?_
          refine ww_cVi (st := []) C (c_Machine_pop (ch v0 1) (kc_Walker_1 _ ho_v0)) cw_Machine_pop (kc_Walker_1 _ ho_v0) (lt_ rfl) rfl g_5_209 hRm ⟨⟨rfl, rfl⟩, le_ rfl, le_ rfl⟩ rfl rfl rfl (le_ rfl) (dq dk_Walker_serve 41 rfl) h (fun x13 σ12 h => ?_)
          refine ww_pop C rfl (dq dk_Walker_serve 42 rfl) ?_
          refine ww_aload_n C 1 rfl rfl (dq dk_Walker_serve 43 rfl) ?_
          refine ww_iload_n C 0 rfl rfl (dq dk_Walker_serve 44 rfl) ?_
          refine ww_cVi (st := []) C (c_Walker_goTo v0 ho_v0 x8) cw_Walker_goTo ho_v0 (lt_ rfl) rfl g_5_210 hRm ⟨⟨rfl, rfl⟩, le_ rfl, le_ rfl⟩ rfl rfl rfl (le_ rfl) (dq dk_Walker_serve 45 rfl) h (fun x15 σ14 h => ?_)
          exact ww_iret C hR (dq dk_Walker_serve 46 rfl) h
        · refine ww_bipush C (dq dk_Walker_serve 33 rfl) bp_6 ?_
          exact ww_iret C hR (dq dk_Walker_serve 34 rfl) h
      · refine ww_bipush C (dq dk_Walker_serve 26 rfl) bp_9 ?_
        exact ww_iret C hR (dq dk_Walker_serve 27 rfl) h
    · refine ww_iconst C (dq dk_Walker_serve 10 rfl) ic_3 ?_
      exact ww_iret C hR (dq dk_Walker_serve 11 rfl) h
  · refine ww_aload_n C 0 rfl rfl (dq dk_Walker_serve 2 rfl) ?_
    refine ww_iconst C (dq dk_Walker_serve 3 rfl) ic_2 ?_
    refine ww_cVi (st := []) C (c_Walker_standStill v0 ho_v0 2) cw_Walker_standStill ho_v0 (lt_ rfl) rfl g_5_195 hRm ⟨⟨rfl, rfl⟩, le_ rfl, le_ rfl⟩ rfl rfl rfl (le_ rfl) (dq dk_Walker_serve 4 rfl) h (fun x17 σ16 h => ?_)
    exact ww_iret C hR (dq dk_Walker_serve 5 rfl) h
abbrev y_Walker_addressBehind : MethodName := ⟨"BundleHouse$Walker", "addressBehind", "()I"⟩
def dl_Walker_addressBehind : List (Nat × Instr × Nat) := [(0, .aload_n 0, 1), (1, .getfield 18, 3), (4, .aload_n 0, 1), (5, .getfield 32, 3), (8, .invokevirtual 64, 3), (11, .iconst 5, 1), (12, .iadd, 1), (13, .ireturn, 1)]
set_option maxRecDepth 100000 in
theorem dk_Walker_addressBehind : ∀ q ∈ dl_Walker_addressBehind, decode prog_12_method_8_code q.1 = .ok q.2 := by decide +kernel
abbrev rm_Walker_addressBehind : Room := { frames := 2, cells := 0, slots := 0, locals := 42 }
theorem cw_Walker_addressBehind : CWV y_Walker_addressBehind prog_12_method_8_code 1 (some .int) 0 := ⟨⟨g_5_239, g_1_12, by decide, by decide, by decide +kernel⟩, g_5_238, gs_4_11⟩
set_option maxHeartbeats 4000000 in
set_option maxRecDepth 100000 in
theorem c_Walker_addressBehind (v0 : Nat) (ho_v0 : kd v0 = 11) : MI y_Walker_addressBehind rm_Walker_addressBehind prog_12_method_8_code 1 .int (fun a => [.ref (a v0)]) (Walker_addressBehind v0) := by
  refine mi_of (by decide) (fun _ => le_ rfl) ?_
  intro k res σ C hR hRm hnL h
  unfold Walker_addressBehind at h
  show WW k 0 [(0, .ref (ad k v0))] [] σ
  refine ww_aload_n C 0 rfl rfl (dq dk_Walker_addressBehind 0 rfl) ?_
  refine ww_getr C ko_Walker 0 ho_v0 (lt_ rfl) g_2_142 rfl rfl (dq dk_Walker_addressBehind 1 rfl) ?_
  refine ww_aload_n C 0 rfl rfl (dq dk_Walker_addressBehind 2 rfl) ?_
  refine ww_geti C ko_Walker 3 ho_v0 (lt_ rfl) g_2_145 rfl rfl (dq dk_Walker_addressBehind 3 rfl) ?_
  refine ww_cVi (st := []) C (c_Program_addressOf (ch v0 0) (kc_Walker_0 _ ho_v0) (σ v0 3)) cw_Program_addressOf (kc_Walker_0 _ ho_v0) (lt_ rfl) rfl g_6_0 hRm ⟨⟨rfl, rfl⟩, le_ rfl, le_ rfl⟩ rfl rfl rfl (le_ rfl) (dq dk_Walker_addressBehind 4 rfl) h (fun x2 σ1 h => ?_)
  refine ww_iconst C (dq dk_Walker_addressBehind 5 rfl) ic_5 ?_
  refine ww_iadd C (dq dk_Walker_addressBehind 6 rfl) ?_
  exact ww_iret C hR (dq dk_Walker_addressBehind 7 rfl) h
abbrev y_Walker_callTo : MethodName := ⟨"BundleHouse$Walker", "callTo", "(I)I"⟩
def dl_Walker_callTo : List (Nat × Instr × Nat) := [(0, .aload_n 0, 1), (1, .getfield 22, 3), (4, .invokevirtual 143, 3), (7, .ifCond .ne 5, 3), (10, .iconst 3, 1), (11, .ireturn, 1), (12, .aload_n 0, 1), (13, .getfield 22, 3), (16, .aload_n 0, 1), (17, .invokevirtual 146, 3), (20, .invokevirtual 149, 3), (23, .aload_n 0, 1), (24, .iload_n 1, 1), (25, .invokevirtual 100, 3), (28, .ireturn, 1)]
set_option maxRecDepth 100000 in
theorem dk_Walker_callTo : ∀ q ∈ dl_Walker_callTo, decode prog_12_method_9_code q.1 = .ok q.2 := by decide +kernel
abbrev rm_Walker_callTo : Room := { frames := 3, cells := 0, slots := 0, locals := 64 }
theorem cw_Walker_callTo : CWV y_Walker_callTo prog_12_method_9_code 2 (some .int) 1 := ⟨⟨g_5_234, g_1_12, by decide, by decide, by decide +kernel⟩, g_5_233, gs_4_10⟩
set_option maxHeartbeats 4000000 in
set_option maxRecDepth 100000 in
theorem c_Walker_callTo (v0 : Nat) (ho_v0 : kd v0 = 11) (v1 : Int32) : MI y_Walker_callTo rm_Walker_callTo prog_12_method_9_code 2 .int (fun a => [.ref (a v0), .int v1]) (Walker_callTo v0 v1) := by
  refine mi_of (by decide) (fun _ => le_ rfl) ?_
  intro k res σ C hR hRm hnL h
  unfold Walker_callTo at h
  show WW k 0 [(0, .ref (ad k v0)), (1, .int v1)] [] σ
  refine ww_aload_n C 0 rfl rfl (dq dk_Walker_callTo 0 rfl) ?_
  refine ww_getr C ko_Walker 1 ho_v0 (lt_ rfl) g_2_143 rfl rfl (dq dk_Walker_callTo 1 rfl) ?_
  refine ww_cVi (st := []) C (c_Machine_canPush (ch v0 1) (kc_Walker_1 _ ho_v0)) cw_Machine_canPush (kc_Walker_1 _ ho_v0) (lt_ rfl) rfl g_5_235 hRm ⟨⟨rfl, rfl⟩, le_ rfl, le_ rfl⟩ rfl rfl rfl (le_ rfl) (dq dk_Walker_callTo 2 rfl) h (fun x2 σ1 h => ?_)
  refine ww_if_ne C 12 (dq dk_Walker_callTo 3 rfl) (by decide) h (fun h => ?_) (fun h => ?_)
  · refine ww_aload_n C 0 rfl rfl (dq dk_Walker_callTo 6 rfl) ?_
    refine ww_getr C ko_Walker 1 ho_v0 (lt_ rfl) g_2_143 rfl rfl (dq dk_Walker_callTo 7 rfl) ?_
    refine ww_aload_n C 0 rfl rfl (dq dk_Walker_callTo 8 rfl) ?_
    refine ww_cVi (st := [.ref (ad k (ch v0 1))]) C (c_Walker_addressBehind v0 ho_v0) cw_Walker_addressBehind ho_v0 (lt_ rfl) rfl g_5_236 hRm ⟨⟨rfl, rfl⟩, le_ rfl, le_ rfl⟩ rfl rfl rfl (le_ rfl) (dq dk_Walker_callTo 9 rfl) h (fun x4 σ3 h => ?_)
    refine ww_cVv (st := []) C (c_Machine_push (ch v0 1) (kc_Walker_1 _ ho_v0) x4) cw_Machine_push (kc_Walker_1 _ ho_v0) (lt_ rfl) rfl g_6_4 hRm ⟨⟨rfl, rfl⟩, le_ rfl, le_ rfl⟩ rfl rfl rfl (le_ rfl) (dq dk_Walker_callTo 10 rfl) h (fun σ5 h => ?_)
    refine ww_aload_n C 0 rfl rfl (dq dk_Walker_callTo 11 rfl) ?_
    refine ww_iload_n C 1 rfl rfl (dq dk_Walker_callTo 12 rfl) ?_
    refine ww_cVi (st := []) C (c_Walker_goTo v0 ho_v0 v1) cw_Walker_goTo ho_v0 (lt_ rfl) rfl g_5_210 hRm ⟨⟨rfl, rfl⟩, le_ rfl, le_ rfl⟩ rfl rfl rfl (le_ rfl) (dq dk_Walker_callTo 13 rfl) h (fun x7 σ6 h => ?_)
    exact ww_iret C hR (dq dk_Walker_callTo 14 rfl) h
  · refine ww_iconst C (dq dk_Walker_callTo 4 rfl) ic_3 ?_
    exact ww_iret C hR (dq dk_Walker_callTo 5 rfl) h
abbrev y_Walker_goBack : MethodName := ⟨"BundleHouse$Walker", "goBack", "()I"⟩
def dl_Walker_goBack : List (Nat × Instr × Nat) := [(0, .aload_n 0, 1), (1, .getfield 22, 3), (4, .invokevirtual 78, 3), (7, .ifCond .ne 5, 3), (10, .iconst 3, 1), (11, .ireturn, 1), (12, .aload_n 0, 1), (13, .getfield 18, 3), (16, .aload_n 0, 1), (17, .getfield 22, 3), (20, .aload_n 0, 1), (21, .getfield 22, 3), (24, .iconst 4, 1), (25, .invokevirtual 82, 3), (28, .invokevirtual 85, 3), (31, .invokevirtual 88, 3), (34, .istore_n 1, 1), (35, .iload_n 1, 1), (36, .bipush (-100), 2), (38, .if_icmp .ne 6, 3), (41, .bipush 9, 2), (43, .ireturn, 1), (44, .aload_n 0, 1), (45, .getfield 22, 3), (48, .invokevirtual 97, 3), (51, .pop, 1), (52, .aload_n 0, 1), (53, .getfield 22, 3), (56, .iconst 1, 1), (57, .iconst 0, 1), (58, .invokevirtual 128, 3), (61, .aload_n 0, 1), (62, .getfield 22, 3), (65, .iconst 1, 1), (66, .putfield 152, 3), (69, .aload_n 0, 1), (70, .getfield 22, 3), (73, .getfield 106, 3), (76, .iconst 2, 1), (77, .invokevirtual 156, 3), (80, .aload_n 0, 1), (81, .iload_n 1, 1), (82, .invokevirtual 100, 3), (85, .ireturn, 1)]
set_option maxRecDepth 100000 in
theorem dk_Walker_goBack : ∀ q ∈ dl_Walker_goBack, decode prog_12_method_11_code q.1 = .ok q.2 := by decide +kernel
abbrev rm_Walker_goBack : Room := { frames := 3, cells := 0, slots := 0, locals := 64 }
theorem cw_Walker_goBack : CWV y_Walker_goBack prog_12_method_11_code 2 (some .int) 0 := ⟨⟨g_6_13, g_1_12, by decide, by decide, by decide +kernel⟩, g_6_12, gs_4_13⟩
set_option maxHeartbeats 4000000 in
set_option maxRecDepth 100000 in
theorem c_Walker_goBack (v0 : Nat) (ho_v0 : kd v0 = 11) : MI y_Walker_goBack rm_Walker_goBack prog_12_method_11_code 2 .int (fun a => [.ref (a v0)]) (Walker_goBack v0) := by
  refine mi_of (by decide) (fun _ => le_ rfl) ?_
  intro k res σ C hR hRm hnL h
  unfold Walker_goBack at h
  show WW k 0 [(0, .ref (ad k v0))] [] σ
  refine ww_aload_n C 0 rfl rfl (dq dk_Walker_goBack 0 rfl) ?_
  refine ww_getr C ko_Walker 1 ho_v0 (lt_ rfl) g_2_143 rfl rfl (dq dk_Walker_goBack 1 rfl) ?_
  refine ww_cVi (st := []) C (c_Machine_canPop (ch v0 1) (kc_Walker_1 _ ho_v0)) cw_Machine_canPop (kc_Walker_1 _ ho_v0) (lt_ rfl) rfl g_5_199 hRm ⟨⟨rfl, rfl⟩, le_ rfl, le_ rfl⟩ rfl rfl rfl (le_ rfl) (dq dk_Walker_goBack 2 rfl) h (fun x2 σ1 h => ?_)
  refine ww_if_ne C 12 (dq dk_Walker_goBack 3 rfl) (by decide) h (fun h => ?_) (fun h => ?_)
  · refine ww_aload_n C 0 rfl rfl (dq dk_Walker_goBack 6 rfl) ?_
    refine ww_getr C ko_Walker 0 ho_v0 (lt_ rfl) g_2_142 rfl rfl (dq dk_Walker_goBack 7 rfl) ?_
    refine ww_aload_n C 0 rfl rfl (dq dk_Walker_goBack 8 rfl) ?_
    refine ww_getr C ko_Walker 1 ho_v0 (lt_ rfl) g_2_143 rfl rfl (dq dk_Walker_goBack 9 rfl) ?_
    refine ww_aload_n C 0 rfl rfl (dq dk_Walker_goBack 10 rfl) ?_
    refine ww_getr C ko_Walker 1 ho_v0 (lt_ rfl) g_2_143 rfl rfl (dq dk_Walker_goBack 11 rfl) ?_
    refine ww_iconst C (dq dk_Walker_goBack 12 rfl) ic_4 ?_
    refine ww_cVi (st := [.ref (ad k (ch v0 1)), .ref (ad k (ch v0 0))]) C (c_Machine_registerAt (ch v0 1) (kc_Walker_1 _ ho_v0) 4) cw_Machine_registerAt (kc_Walker_1 _ ho_v0) (lt_ rfl) rfl g_5_200 hRm ⟨⟨rfl, rfl⟩, le_ rfl, le_ rfl⟩ rfl rfl rfl (le_ rfl) (dq dk_Walker_goBack 13 rfl) h (fun x4 σ3 h => ?_)
    refine ww_cVi (st := [.ref (ad k (ch v0 0))]) C (c_Machine_wordAt (ch v0 1) (kc_Walker_1 _ ho_v0) x4) cw_Machine_wordAt (kc_Walker_1 _ ho_v0) (lt_ rfl) rfl g_5_201 hRm ⟨⟨rfl, rfl⟩, le_ rfl, le_ rfl⟩ rfl rfl rfl (le_ rfl) (dq dk_Walker_goBack 14 rfl) h (fun x6 σ5 h => ?_)
    refine ww_cVi (st := []) C (c_Program_landingAt (ch v0 0) (kc_Walker_0 _ ho_v0) x6) cw_Program_landingAt (kc_Walker_0 _ ho_v0) (lt_ rfl) rfl g_5_202 hRm ⟨⟨rfl, rfl⟩, le_ rfl, le_ rfl⟩ rfl rfl rfl (le_ rfl) (dq dk_Walker_goBack 15 rfl) h (fun x8 σ7 h => ?_)
    refine ww_istore_n C [(1, .int x8), (0, .ref (ad k v0))] rfl hnL (lt_ rfl) rfl (dq dk_Walker_goBack 16 rfl) ?_
    refine ww_iload_n C 0 rfl rfl (dq dk_Walker_goBack 17 rfl) ?_
    refine ww_bipush C (dq dk_Walker_goBack 18 rfl) bp_m100 ?_
    refine ww_icmp_ne C 44 (dq dk_Walker_goBack 19 rfl) (by decide) h (fun h => ?_) (fun h => ?_)
    · refine ww_aload_n C 1 rfl rfl (dq dk_Walker_goBack 22 rfl) ?_
      refine ww_getr C ko_Walker 1 ho_v0 (lt_ rfl) g_2_143 rfl rfl (dq dk_Walker_goBack 23 rfl) ?_
      refine ww_cVi (st := []) C (c_Machine_pop (ch v0 1) (kc_Walker_1 _ ho_v0)) cw_Machine_pop (kc_Walker_1 _ ho_v0) (lt_ rfl) rfl g_5_209 hRm ⟨⟨rfl, rfl⟩, le_ rfl, le_ rfl⟩ rfl rfl rfl (le_ rfl) (dq dk_Walker_goBack 24 rfl) h (fun x10 σ9 h => ?_)
      refine ww_pop C rfl (dq dk_Walker_goBack 25 rfl) ?_
      refine ww_aload_n C 1 rfl rfl (dq dk_Walker_goBack 26 rfl) ?_
      refine ww_getr C ko_Walker 1 ho_v0 (lt_ rfl) g_2_143 rfl rfl (dq dk_Walker_goBack 27 rfl) ?_
      refine ww_iconst C (dq dk_Walker_goBack 28 rfl) ic_1 ?_
      refine ww_iconst C (dq dk_Walker_goBack 29 rfl) ic_0 ?_
      refine ww_cVv (st := []) C (c_Machine_give (ch v0 1) (kc_Walker_1 _ ho_v0) 1 0) cw_Machine_give (kc_Walker_1 _ ho_v0) (lt_ rfl) rfl g_6_14 hRm ⟨⟨rfl, rfl⟩, le_ rfl, le_ rfl⟩ rfl rfl rfl (le_ rfl) (dq dk_Walker_goBack 30 rfl) h (fun σ11 h => ?_)
      refine ww_aload_n C 1 rfl rfl (dq dk_Walker_goBack 31 rfl) ?_
      refine ww_getr C ko_Walker 1 ho_v0 (lt_ rfl) g_2_143 rfl rfl (dq dk_Walker_goBack 32 rfl) ?_
      refine ww_iconst C (dq dk_Walker_goBack 33 rfl) ic_1 ?_
      refine ww_putZ C ko_Machine 5 (kc_Walker_1 _ ho_v0) (lt_ rfl) g_2_79 rfl rfl rfl rfl (Or.inr rfl) (dq dk_Walker_goBack 34 rfl) h (fun σ12 h => ?_)
      refine ww_aload_n C 1 rfl rfl (dq dk_Walker_goBack 35 rfl) ?_
      refine ww_getr C ko_Walker 1 ho_v0 (lt_ rfl) g_2_143 rfl rfl (dq dk_Walker_goBack 36 rfl) ?_
      refine ww_getr C ko_Machine 0 (kc_Walker_1 _ ho_v0) (lt_ rfl) g_2_66 rfl rfl (dq dk_Walker_goBack 37 rfl) ?_
      refine ww_iconst C (dq dk_Walker_goBack 38 rfl) ic_2 ?_
      refine ww_cVv (st := []) C (c_Flags_setAll (ch (ch v0 1) 0) (kc_Machine_0 _ (kc_Walker_1 _ ho_v0)) 2) cw_Flags_setAll (kc_Machine_0 _ (kc_Walker_1 _ ho_v0)) (lt_ rfl) rfl g_6_9 hRm ⟨⟨rfl, rfl⟩, le_ rfl, le_ rfl⟩ rfl rfl rfl (le_ rfl) (dq dk_Walker_goBack 39 rfl) h (fun σ13 h => ?_)
      refine ww_aload_n C 1 rfl rfl (dq dk_Walker_goBack 40 rfl) ?_
      refine ww_iload_n C 0 rfl rfl (dq dk_Walker_goBack 41 rfl) ?_
      refine ww_cVi (st := []) C (c_Walker_goTo v0 ho_v0 x8) cw_Walker_goTo ho_v0 (lt_ rfl) rfl g_5_210 hRm ⟨⟨rfl, rfl⟩, le_ rfl, le_ rfl⟩ rfl rfl rfl (le_ rfl) (dq dk_Walker_goBack 42 rfl) h (fun x15 σ14 h => ?_)
      exact ww_iret C hR (dq dk_Walker_goBack 43 rfl) h
    · refine ww_bipush C (dq dk_Walker_goBack 20 rfl) bp_9 ?_
      exact ww_iret C hR (dq dk_Walker_goBack 21 rfl) h
  · refine ww_iconst C (dq dk_Walker_goBack 4 rfl) ic_3 ?_
    exact ww_iret C hR (dq dk_Walker_goBack 5 rfl) h
abbrev y_Walker_goByRegister : MethodName := ⟨"BundleHouse$Walker", "goByRegister", "(IZ)I"⟩
def dl_Walker_goByRegister : List (Nat × Instr × Nat) := [(0, .iload_n 1, 1), (1, .iconst 1, 1), (2, .if_icmp .ne 16, 3), (5, .aload_n 0, 1), (6, .getfield 22, 3), (9, .getfield 152, 3), (12, .ifCond .eq 6, 3), (15, .bipush 7, 2), (17, .ireturn, 1), (18, .aload_n 0, 1), (19, .getfield 18, 3), (22, .aload_n 0, 1), (23, .getfield 22, 3), (26, .iload_n 1, 1), (27, .invokevirtual 82, 3), (30, .invokevirtual 88, 3), (33, .istore_n 3, 1), (34, .iload_n 3, 1), (35, .bipush (-100), 2), (37, .if_icmp .ne 6, 3), (40, .bipush 9, 2), (42, .ireturn, 1), (43, .iload_n 2, 1), (44, .ifCond .eq 15, 3), (47, .aload_n 0, 1), (48, .getfield 22, 3), (51, .invokevirtual 143, 3), (54, .ifCond .ne 5, 3), (57, .iconst 3, 1), (58, .ireturn, 1), (59, .iload_n 2, 1), (60, .ifCond .eq 14, 3), (63, .aload_n 0, 1), (64, .getfield 22, 3), (67, .aload_n 0, 1), (68, .invokevirtual 146, 3), (71, .invokevirtual 149, 3), (74, .aload_n 0, 1), (75, .getfield 22, 3), (78, .getfield 106, 3), (81, .iconst 2, 1), (82, .invokevirtual 156, 3), (85, .aload_n 0, 1), (86, .iload_n 3, 1), (87, .invokevirtual 100, 3), (90, .ireturn, 1)]
set_option maxRecDepth 100000 in
theorem dk_Walker_goByRegister : ∀ q ∈ dl_Walker_goByRegister, decode prog_12_method_10_code q.1 = .ok q.2 := by decide +kernel
abbrev rm_Walker_goByRegister : Room := { frames := 3, cells := 0, slots := 0, locals := 64 }
theorem cw_Walker_goByRegister : CWV y_Walker_goByRegister prog_12_method_10_code 4 (some .int) 2 := ⟨⟨g_6_8, g_1_12, by decide, by decide, by decide +kernel⟩, g_6_7, gs_4_12⟩
set_option maxHeartbeats 4000000 in
set_option maxRecDepth 100000 in
theorem t_Walker_goByRegister_B74 {k : Cfg} {res : Int32 × St} (C : Cx k prog_12_method_10_code "BundleHouse$Walker") (hR : RI k .int res) (hRm : k.2.2.2.1 = rm_Walker_goByRegister) (hnL : k.2.2.2.2.2.2.2.2.2.2.2.1 = 4) (v0 : Nat) (v3 : Int32) (ho_v0 : kd v0 = 11) (σ : St) (h : Walker_goByRegister_B74 v0 v3 σ = some res) : WW k 74 [(0, .ref (ad k v0)), (3, .int v3)] [] σ := by
  unfold Walker_goByRegister_B74 at h
  refine ww_aload_n C 0 rfl rfl (dq dk_Walker_goByRegister 37 rfl) ?_
  refine ww_getr C ko_Walker 1 ho_v0 (lt_ rfl) g_2_143 rfl rfl (dq dk_Walker_goByRegister 38 rfl) ?_
  refine ww_getr C ko_Machine 0 (kc_Walker_1 _ ho_v0) (lt_ rfl) g_2_66 rfl rfl (dq dk_Walker_goByRegister 39 rfl) ?_
  refine ww_iconst C (dq dk_Walker_goByRegister 40 rfl) ic_2 ?_
  refine ww_cVv (st := []) C (c_Flags_setAll (ch (ch v0 1) 0) (kc_Machine_0 _ (kc_Walker_1 _ ho_v0)) 2) cw_Flags_setAll (kc_Machine_0 _ (kc_Walker_1 _ ho_v0)) (lt_ rfl) rfl g_6_9 hRm ⟨⟨rfl, rfl⟩, le_ rfl, le_ rfl⟩ rfl rfl rfl (le_ rfl) (dq dk_Walker_goByRegister 41 rfl) h (fun σ1 h => ?_)
  refine ww_aload_n C 0 rfl rfl (dq dk_Walker_goByRegister 42 rfl) ?_
  refine ww_iload_n C 1 rfl rfl (dq dk_Walker_goByRegister 43 rfl) ?_
  refine ww_cVi (st := []) C (c_Walker_goTo v0 ho_v0 v3) cw_Walker_goTo ho_v0 (lt_ rfl) rfl g_5_210 hRm ⟨⟨rfl, rfl⟩, le_ rfl, le_ rfl⟩ rfl rfl rfl (le_ rfl) (dq dk_Walker_goByRegister 44 rfl) h (fun x3 σ2 h => ?_)
  exact ww_iret C hR (dq dk_Walker_goByRegister 45 rfl) h
set_option maxHeartbeats 4000000 in
set_option maxRecDepth 100000 in
theorem t_Walker_goByRegister_B59 {k : Cfg} {res : Int32 × St} (C : Cx k prog_12_method_10_code "BundleHouse$Walker") (hR : RI k .int res) (hRm : k.2.2.2.1 = rm_Walker_goByRegister) (hnL : k.2.2.2.2.2.2.2.2.2.2.2.1 = 4) (v0 : Nat) (v2 : Int32) (v3 : Int32) (ho_v0 : kd v0 = 11) (σ : St) (h : Walker_goByRegister_B59 v0 v2 v3 σ = some res) : WW k 59 [(0, .ref (ad k v0)), (2, .int v2), (3, .int v3)] [] σ := by
  unfold Walker_goByRegister_B59 at h
  refine ww_iload_n C 1 rfl rfl (dq dk_Walker_goByRegister 30 rfl) ?_
  refine ww_if_eq C 74 (dq dk_Walker_goByRegister 31 rfl) (by decide) h (fun h => ?_) (fun h => ?_)
  · exact ww_lv [0, 2] rfl (t_Walker_goByRegister_B74 C hR hRm hnL v0 v3 ho_v0 σ h)
  · refine ww_aload_n C 0 rfl rfl (dq dk_Walker_goByRegister 32 rfl) ?_
    refine ww_getr C ko_Walker 1 ho_v0 (lt_ rfl) g_2_143 rfl rfl (dq dk_Walker_goByRegister 33 rfl) ?_
    refine ww_aload_n C 0 rfl rfl (dq dk_Walker_goByRegister 34 rfl) ?_
    refine ww_cVi (st := [.ref (ad k (ch v0 1))]) C (c_Walker_addressBehind v0 ho_v0) cw_Walker_addressBehind ho_v0 (lt_ rfl) rfl g_5_236 hRm ⟨⟨rfl, rfl⟩, le_ rfl, le_ rfl⟩ rfl rfl rfl (le_ rfl) (dq dk_Walker_goByRegister 35 rfl) h (fun x2 σ1 h => ?_)
    refine ww_cVv (st := []) C (c_Machine_push (ch v0 1) (kc_Walker_1 _ ho_v0) x2) cw_Machine_push (kc_Walker_1 _ ho_v0) (lt_ rfl) rfl g_6_4 hRm ⟨⟨rfl, rfl⟩, le_ rfl, le_ rfl⟩ rfl rfl rfl (le_ rfl) (dq dk_Walker_goByRegister 36 rfl) h (fun σ3 h => ?_)
    exact ww_lv [0, 2] rfl (t_Walker_goByRegister_B74 C hR hRm hnL v0 v3 ho_v0 σ3 h)
set_option maxHeartbeats 4000000 in
set_option maxRecDepth 100000 in
theorem t_Walker_goByRegister_B18 {k : Cfg} {res : Int32 × St} (C : Cx k prog_12_method_10_code "BundleHouse$Walker") (hR : RI k .int res) (hRm : k.2.2.2.1 = rm_Walker_goByRegister) (hnL : k.2.2.2.2.2.2.2.2.2.2.2.1 = 4) (v0 : Nat) (v1 : Int32) (v2 : Int32) (ho_v0 : kd v0 = 11) (σ : St) (h : Walker_goByRegister_B18 v0 v1 v2 σ = some res) : WW k 18 [(0, .ref (ad k v0)), (1, .int v1), (2, .int v2)] [] σ := by
  unfold Walker_goByRegister_B18 at h
  refine ww_aload_n C 0 rfl rfl (dq dk_Walker_goByRegister 9 rfl) ?_
  refine ww_getr C ko_Walker 0 ho_v0 (lt_ rfl) g_2_142 rfl rfl (dq dk_Walker_goByRegister 10 rfl) ?_
  refine ww_aload_n C 0 rfl rfl (dq dk_Walker_goByRegister 11 rfl) ?_
  refine ww_getr C ko_Walker 1 ho_v0 (lt_ rfl) g_2_143 rfl rfl (dq dk_Walker_goByRegister 12 rfl) ?_
  refine ww_iload_n C 1 rfl rfl (dq dk_Walker_goByRegister 13 rfl) ?_
  refine ww_cVi (st := [.ref (ad k (ch v0 0))]) C (c_Machine_registerAt (ch v0 1) (kc_Walker_1 _ ho_v0) v1) cw_Machine_registerAt (kc_Walker_1 _ ho_v0) (lt_ rfl) rfl g_5_200 hRm ⟨⟨rfl, rfl⟩, le_ rfl, le_ rfl⟩ rfl rfl rfl (le_ rfl) (dq dk_Walker_goByRegister 14 rfl) h (fun x2 σ1 h => ?_)
  refine ww_cVi (st := []) C (c_Program_landingAt (ch v0 0) (kc_Walker_0 _ ho_v0) x2) cw_Program_landingAt (kc_Walker_0 _ ho_v0) (lt_ rfl) rfl g_5_202 hRm ⟨⟨rfl, rfl⟩, le_ rfl, le_ rfl⟩ rfl rfl rfl (le_ rfl) (dq dk_Walker_goByRegister 15 rfl) h (fun x4 σ3 h => ?_)
  refine ww_istore_n C [(3, .int x4), (0, .ref (ad k v0)), (1, .int v1), (2, .int v2)] rfl hnL (lt_ rfl) rfl (dq dk_Walker_goByRegister 16 rfl) ?_
  refine ww_iload_n C 0 rfl rfl (dq dk_Walker_goByRegister 17 rfl) ?_
  refine ww_bipush C (dq dk_Walker_goByRegister 18 rfl) bp_m100 ?_
  refine ww_icmp_ne C 43 (dq dk_Walker_goByRegister 19 rfl) (by decide) h (fun h => ?_) (fun h => ?_)
  · refine ww_iload_n C 3 rfl rfl (dq dk_Walker_goByRegister 22 rfl) ?_
    refine ww_if_eq C 59 (dq dk_Walker_goByRegister 23 rfl) (by decide) h (fun h => ?_) (fun h => ?_)
    · exact ww_lv [1, 3, 0] rfl (t_Walker_goByRegister_B59 C hR hRm hnL v0 v2 x4 ho_v0 σ3 h)
    · refine ww_aload_n C 1 rfl rfl (dq dk_Walker_goByRegister 24 rfl) ?_
      refine ww_getr C ko_Walker 1 ho_v0 (lt_ rfl) g_2_143 rfl rfl (dq dk_Walker_goByRegister 25 rfl) ?_
      refine ww_cVi (st := []) C (c_Machine_canPush (ch v0 1) (kc_Walker_1 _ ho_v0)) cw_Machine_canPush (kc_Walker_1 _ ho_v0) (lt_ rfl) rfl g_5_235 hRm ⟨⟨rfl, rfl⟩, le_ rfl, le_ rfl⟩ rfl rfl rfl (le_ rfl) (dq dk_Walker_goByRegister 26 rfl) h (fun x6 σ5 h => ?_)
      refine ww_if_ne C 59 (dq dk_Walker_goByRegister 27 rfl) (by decide) h (fun h => ?_) (fun h => ?_)
      · exact ww_lv [1, 3, 0] rfl (t_Walker_goByRegister_B59 C hR hRm hnL v0 v2 x4 ho_v0 σ5 h)
      · refine ww_iconst C (dq dk_Walker_goByRegister 28 rfl) ic_3 ?_
        exact ww_iret C hR (dq dk_Walker_goByRegister 29 rfl) h
  · refine ww_bipush C (dq dk_Walker_goByRegister 20 rfl) bp_9 ?_
    exact ww_iret C hR (dq dk_Walker_goByRegister 21 rfl) h
set_option maxHeartbeats 4000000 in
set_option maxRecDepth 100000 in
theorem c_Walker_goByRegister (v0 : Nat) (ho_v0 : kd v0 = 11) (v1 : Int32) (v2 : Int32) : MI y_Walker_goByRegister rm_Walker_goByRegister prog_12_method_10_code 4 .int (fun a => [.ref (a v0), .int v1, .int v2]) (Walker_goByRegister v0 v1 v2) := by
  refine mi_of (by decide) (fun _ => le_ rfl) ?_
  intro k res σ C hR hRm hnL h
  unfold Walker_goByRegister at h
  show WW k 0 [(0, .ref (ad k v0)), (1, .int v1), (2, .int v2)] [] σ
  refine ww_iload_n C 1 rfl rfl (dq dk_Walker_goByRegister 0 rfl) ?_
  refine ww_iconst C (dq dk_Walker_goByRegister 1 rfl) ic_1 ?_
  refine ww_icmp_ne C 18 (dq dk_Walker_goByRegister 2 rfl) (by decide) h (fun h => ?_) (fun h => ?_)
  · exact ww_lv [0, 1, 2] rfl (t_Walker_goByRegister_B18 C hR hRm hnL v0 v1 v2 ho_v0 σ h)
  · refine ww_aload_n C 0 rfl rfl (dq dk_Walker_goByRegister 3 rfl) ?_
    refine ww_getr C ko_Walker 1 ho_v0 (lt_ rfl) g_2_143 rfl rfl (dq dk_Walker_goByRegister 4 rfl) ?_
    refine ww_geti C ko_Machine 5 (kc_Walker_1 _ ho_v0) (lt_ rfl) g_2_79 rfl rfl (dq dk_Walker_goByRegister 5 rfl) ?_
    refine ww_if_eq C 18 (dq dk_Walker_goByRegister 6 rfl) (by decide) h (fun h => ?_) (fun h => ?_)
    · exact ww_lv [0, 1, 2] rfl (t_Walker_goByRegister_B18 C hR hRm hnL v0 v1 v2 ho_v0 σ h)
    · refine ww_bipush C (dq dk_Walker_goByRegister 7 rfl) bp_7 ?_
      exact ww_iret C hR (dq dk_Walker_goByRegister 8 rfl) h
abbrev y_Walker_stepFlow : MethodName := ⟨"BundleHouse$Walker", "stepFlow", "(III)I"⟩
def dl_Walker_stepFlow : List (Nat × Instr × Nat) := [(0, .iload_n 1, 1), (1, .tableswitch 149 1 7 #[43, 56, 109, 122, 130, 137, 144], 43), (44, .aload_n 0, 1), (45, .aload_n 0, 1), (46, .getfield 18, 3), (49, .iload_n 2, 1), (50, .invokevirtual 103, 3), (53, .invokevirtual 100, 3), (56, .ireturn, 1), (57, .aload_n 0, 1), (58, .getfield 22, 3), (61, .getfield 106, 3), (64, .iload_n 3, 1), (65, .invokevirtual 110, 3), (68, .ifCond .eq 6, 3), (71, .bipush 7, 2), (73, .ireturn, 1), (74, .aload_n 0, 1), (75, .aload_n 0, 1), (76, .getfield 22, 3), (79, .getfield 106, 3), (82, .iload_n 3, 1), (83, .invokevirtual 115, 3), (86, .ifCond .eq 14, 3), (89, .aload_n 0, 1), (90, .getfield 18, 3), (93, .iload_n 2, 1), (94, .invokevirtual 103, 3), (97, .goto 9, 3), (100, .aload_n 0, 1), (101, .getfield 32, 3), (104, .iconst 1, 1), (105, .iadd, 1), (106, .invokevirtual 100, 3), (109, .ireturn, 1), (110, .aload_n 0, 1), (111, .aload_n 0, 1), (112, .getfield 18, 3), (115, .iload_n 2, 1), (116, .invokevirtual 103, 3), (119, .invokevirtual 118, 3), (122, .ireturn, 1), (123, .aload_n 0, 1), (124, .iconst (-1), 1), (125, .iload_n 2, 1), (126, .isub, 1), (127, .invokevirtual 118, 3), (130, .ireturn, 1), (131, .aload_n 0, 1), (132, .iload_n 2, 1), (133, .iconst 0, 1), (134, .invokevirtual 121, 3), (137, .ireturn, 1), (138, .aload_n 0, 1), (139, .iload_n 2, 1), (140, .iconst 1, 1), (141, .invokevirtual 121, 3), (144, .ireturn, 1), (145, .aload_n 0, 1), (146, .invokevirtual 125, 3), (149, .ireturn, 1), (150, .aload_n 0, 1), (151, .getfield 22, 3), (154, .iload_n 3, 1), (155, .aload_n 0, 1), (156, .getfield 18, 3), (159, .aload_n 0, 1), (160, .getfield 18, 3), (163, .iload_n 2, 1), (164, .invokevirtual 103, 3), (167, .invokevirtual 64, 3), (170, .invokevirtual 128, 3), (173, .aload_n 0, 1), (174, .aload_n 0, 1), (175, .getfield 32, 3), (178, .iconst 1, 1), (179, .iadd, 1), (180, .invokevirtual 100, 3), (183, .ireturn, 1)]
set_option maxRecDepth 100000 in
theorem dk_Walker_stepFlow : ∀ q ∈ dl_Walker_stepFlow, decode prog_12_method_6_code q.1 = .ok q.2 := by decide +kernel
abbrev rm_Walker_stepFlow : Room := { frames := 4, cells := 0, slots := 0, locals := 87 }
theorem cw_Walker_stepFlow : CWV y_Walker_stepFlow prog_12_method_6_code 4 (some .int) 3 := ⟨⟨g_5_224, g_1_12, by decide, by decide, by decide +kernel⟩, g_5_223, gs_4_9⟩
set_option maxHeartbeats 4000000 in
set_option maxRecDepth 100000 in
theorem c_Walker_stepFlow (v0 : Nat) (ho_v0 : kd v0 = 11) (v1 : Int32) (v2 : Int32) (v3 : Int32) : MI y_Walker_stepFlow rm_Walker_stepFlow prog_12_method_6_code 4 .int (fun a => [.ref (a v0), .int v1, .int v2, .int v3]) (Walker_stepFlow v0 v1 v2 v3) := by
  refine mi_of (by decide) (fun _ => le_ rfl) ?_
  intro k res σ C hR hRm hnL h
  unfold Walker_stepFlow at h
  show WW k 0 [(0, .ref (ad k v0)), (1, .int v1), (2, .int v2), (3, .int v3)] [] σ
  refine ww_iload_n C 1 rfl rfl (dq dk_Walker_stepFlow 0 rfl) ?_
  by_cases e0_1 : v1 = 1
  · rw [if_pos e0_1] at h
    refine ww_tabIn C 44 (dq dk_Walker_stepFlow 1 rfl) (by rw [e0_1]; decide) (by rw [e0_1]; decide) (by rw [e0_1]; rfl) (by decide) ?_
    refine ww_aload_n C 0 rfl rfl (dq dk_Walker_stepFlow 2 rfl) ?_
    refine ww_aload_n C 0 rfl rfl (dq dk_Walker_stepFlow 3 rfl) ?_
    refine ww_getr C ko_Walker 0 ho_v0 (lt_ rfl) g_2_142 rfl rfl (dq dk_Walker_stepFlow 4 rfl) ?_
    refine ww_iload_n C 2 rfl rfl (dq dk_Walker_stepFlow 5 rfl) ?_
    refine ww_cVi (st := [.ref (ad k v0)]) C (c_Program_labelItem (ch v0 0) (kc_Walker_0 _ ho_v0) v2) cw_Program_labelItem (kc_Walker_0 _ ho_v0) (lt_ rfl) rfl g_5_225 hRm ⟨⟨rfl, rfl⟩, le_ rfl, le_ rfl⟩ rfl rfl rfl (le_ rfl) (dq dk_Walker_stepFlow 6 rfl) h (fun x2 σ1 h => ?_)
    refine ww_cVi (st := []) C (c_Walker_goTo v0 ho_v0 x2) cw_Walker_goTo ho_v0 (lt_ rfl) rfl g_5_210 hRm ⟨⟨rfl, rfl⟩, le_ rfl, le_ rfl⟩ rfl rfl rfl (le_ rfl) (dq dk_Walker_stepFlow 7 rfl) h (fun x4 σ3 h => ?_)
    exact ww_iret C hR (dq dk_Walker_stepFlow 8 rfl) h
  rw [if_neg e0_1] at h
  by_cases e1_2 : v1 = 2
  · rw [if_pos e1_2] at h
    refine ww_tabIn C 57 (dq dk_Walker_stepFlow 1 rfl) (by rw [e1_2]; decide) (by rw [e1_2]; decide) (by rw [e1_2]; rfl) (by decide) ?_
    refine ww_aload_n C 0 rfl rfl (dq dk_Walker_stepFlow 9 rfl) ?_
    refine ww_getr C ko_Walker 1 ho_v0 (lt_ rfl) g_2_143 rfl rfl (dq dk_Walker_stepFlow 10 rfl) ?_
    refine ww_getr C ko_Machine 0 (kc_Walker_1 _ ho_v0) (lt_ rfl) g_2_66 rfl rfl (dq dk_Walker_stepFlow 11 rfl) ?_
    refine ww_iload_n C 3 rfl rfl (dq dk_Walker_stepFlow 12 rfl) ?_
    refine ww_cVi (st := []) C (c_Flags_isUnknownTo (ch (ch v0 1) 0) (kc_Machine_0 _ (kc_Walker_1 _ ho_v0)) v3) cw_Flags_isUnknownTo (kc_Machine_0 _ (kc_Walker_1 _ ho_v0)) (lt_ rfl) rfl g_5_226 hRm ⟨⟨rfl, rfl⟩, le_ rfl, le_ rfl⟩ rfl rfl rfl (le_ rfl) (dq dk_Walker_stepFlow 13 rfl) h (fun x6 σ5 h => ?_)
    refine ww_if_eq C 74 (dq dk_Walker_stepFlow 14 rfl) (by decide) h (fun h => ?_) (fun h => ?_)
    · refine ww_aload_n C 0 rfl rfl (dq dk_Walker_stepFlow 17 rfl) ?_
      refine ww_aload_n C 0 rfl rfl (dq dk_Walker_stepFlow 18 rfl) ?_
      refine ww_getr C ko_Walker 1 ho_v0 (lt_ rfl) g_2_143 rfl rfl (dq dk_Walker_stepFlow 19 rfl) ?_
      refine ww_getr C ko_Machine 0 (kc_Walker_1 _ ho_v0) (lt_ rfl) g_2_66 rfl rfl (dq dk_Walker_stepFlow 20 rfl) ?_
      refine ww_iload_n C 3 rfl rfl (dq dk_Walker_stepFlow 21 rfl) ?_
      refine ww_cVi (st := [.ref (ad k v0)]) C (c_Flags_holds (ch (ch v0 1) 0) (kc_Machine_0 _ (kc_Walker_1 _ ho_v0)) v3) cw_Flags_holds (kc_Machine_0 _ (kc_Walker_1 _ ho_v0)) (lt_ rfl) rfl g_5_230 hRm ⟨⟨rfl, rfl⟩, le_ rfl, le_ rfl⟩ rfl rfl rfl (le_ rfl) (dq dk_Walker_stepFlow 22 rfl) h (fun x8 σ7 h => ?_)
      refine ww_if_eq C 100 (dq dk_Walker_stepFlow 23 rfl) (by decide) h (fun h => ?_) (fun h => ?_)
      · refine ww_aload_n C 0 rfl rfl (dq dk_Walker_stepFlow 29 rfl) ?_
        refine ww_geti C ko_Walker 3 ho_v0 (lt_ rfl) g_2_145 rfl rfl (dq dk_Walker_stepFlow 30 rfl) ?_
        refine ww_iconst C (dq dk_Walker_stepFlow 31 rfl) ic_1 ?_
        refine ww_iadd C (dq dk_Walker_stepFlow 32 rfl) ?_
        refine ww_cVi (st := []) C (c_Walker_goTo v0 ho_v0 ((σ7 v0 3) + 1)) cw_Walker_goTo ho_v0 (lt_ rfl) rfl g_5_210 hRm ⟨⟨rfl, rfl⟩, le_ rfl, le_ rfl⟩ rfl rfl rfl (le_ rfl) (dq dk_Walker_stepFlow 33 rfl) h (fun x10 σ9 h => ?_)
        exact ww_iret C hR (dq dk_Walker_stepFlow 34 rfl) h
      · refine ww_aload_n C 0 rfl rfl (dq dk_Walker_stepFlow 24 rfl) ?_
        refine ww_getr C ko_Walker 0 ho_v0 (lt_ rfl) g_2_142 rfl rfl (dq dk_Walker_stepFlow 25 rfl) ?_
        refine ww_iload_n C 2 rfl rfl (dq dk_Walker_stepFlow 26 rfl) ?_
        refine ww_cVi (st := [.ref (ad k v0)]) C (c_Program_labelItem (ch v0 0) (kc_Walker_0 _ ho_v0) v2) cw_Program_labelItem (kc_Walker_0 _ ho_v0) (lt_ rfl) rfl g_5_225 hRm ⟨⟨rfl, rfl⟩, le_ rfl, le_ rfl⟩ rfl rfl rfl (le_ rfl) (dq dk_Walker_stepFlow 27 rfl) h (fun x12 σ11 h => ?_)
        refine ww_goto C 106 (dq dk_Walker_stepFlow 28 rfl) (by decide) ?_
        refine ww_cVi (st := []) C (c_Walker_goTo v0 ho_v0 x12) cw_Walker_goTo ho_v0 (lt_ rfl) rfl g_5_210 hRm ⟨⟨rfl, rfl⟩, le_ rfl, le_ rfl⟩ rfl rfl rfl (le_ rfl) (dq dk_Walker_stepFlow 33 rfl) h (fun x14 σ13 h => ?_)
        exact ww_iret C hR (dq dk_Walker_stepFlow 34 rfl) h
    · refine ww_bipush C (dq dk_Walker_stepFlow 15 rfl) bp_7 ?_
      exact ww_iret C hR (dq dk_Walker_stepFlow 16 rfl) h
  rw [if_neg e1_2] at h
  by_cases e2_3 : v1 = 3
  · rw [if_pos e2_3] at h
    refine ww_tabIn C 110 (dq dk_Walker_stepFlow 1 rfl) (by rw [e2_3]; decide) (by rw [e2_3]; decide) (by rw [e2_3]; rfl) (by decide) ?_
    refine ww_aload_n C 0 rfl rfl (dq dk_Walker_stepFlow 35 rfl) ?_
    refine ww_aload_n C 0 rfl rfl (dq dk_Walker_stepFlow 36 rfl) ?_
    refine ww_getr C ko_Walker 0 ho_v0 (lt_ rfl) g_2_142 rfl rfl (dq dk_Walker_stepFlow 37 rfl) ?_
    refine ww_iload_n C 2 rfl rfl (dq dk_Walker_stepFlow 38 rfl) ?_
    refine ww_cVi (st := [.ref (ad k v0)]) C (c_Program_labelItem (ch v0 0) (kc_Walker_0 _ ho_v0) v2) cw_Program_labelItem (kc_Walker_0 _ ho_v0) (lt_ rfl) rfl g_5_225 hRm ⟨⟨rfl, rfl⟩, le_ rfl, le_ rfl⟩ rfl rfl rfl (le_ rfl) (dq dk_Walker_stepFlow 39 rfl) h (fun x16 σ15 h => ?_)
    refine ww_cVi (st := []) C (c_Walker_callTo v0 ho_v0 x16) cw_Walker_callTo ho_v0 (lt_ rfl) rfl g_5_231 hRm ⟨⟨rfl, rfl⟩, le_ rfl, le_ rfl⟩ rfl rfl rfl (le_ rfl) (dq dk_Walker_stepFlow 40 rfl) h (fun x18 σ17 h => ?_)
    exact ww_iret C hR (dq dk_Walker_stepFlow 41 rfl) h
  rw [if_neg e2_3] at h
  by_cases e3_4 : v1 = 4
  · rw [if_pos e3_4] at h
    refine ww_tabIn C 123 (dq dk_Walker_stepFlow 1 rfl) (by rw [e3_4]; decide) (by rw [e3_4]; decide) (by rw [e3_4]; rfl) (by decide) ?_
    refine ww_aload_n C 0 rfl rfl (dq dk_Walker_stepFlow 42 rfl) ?_
    refine ww_iconst C (dq dk_Walker_stepFlow 43 rfl) ic_m1 ?_
    refine ww_iload_n C 2 rfl rfl (dq dk_Walker_stepFlow 44 rfl) ?_
    refine ww_isub C (dq dk_Walker_stepFlow 45 rfl) ?_
    refine ww_cVi (st := []) C (c_Walker_callTo v0 ho_v0 ((-1) - v2)) cw_Walker_callTo ho_v0 (lt_ rfl) rfl g_5_231 hRm ⟨⟨rfl, rfl⟩, le_ rfl, le_ rfl⟩ rfl rfl rfl (le_ rfl) (dq dk_Walker_stepFlow 46 rfl) h (fun x20 σ19 h => ?_)
    exact ww_iret C hR (dq dk_Walker_stepFlow 47 rfl) h
  rw [if_neg e3_4] at h
  by_cases e4_5 : v1 = 5
  · rw [if_pos e4_5] at h
    refine ww_tabIn C 131 (dq dk_Walker_stepFlow 1 rfl) (by rw [e4_5]; decide) (by rw [e4_5]; decide) (by rw [e4_5]; rfl) (by decide) ?_
    refine ww_aload_n C 0 rfl rfl (dq dk_Walker_stepFlow 48 rfl) ?_
    refine ww_iload_n C 2 rfl rfl (dq dk_Walker_stepFlow 49 rfl) ?_
    refine ww_iconst C (dq dk_Walker_stepFlow 50 rfl) ic_0 ?_
    refine ww_cVi (st := []) C (c_Walker_goByRegister v0 ho_v0 v2 0) cw_Walker_goByRegister ho_v0 (lt_ rfl) rfl g_6_5 hRm ⟨⟨rfl, rfl⟩, le_ rfl, le_ rfl⟩ rfl rfl rfl (le_ rfl) (dq dk_Walker_stepFlow 51 rfl) h (fun x22 σ21 h => ?_)
    exact ww_iret C hR (dq dk_Walker_stepFlow 52 rfl) h
  rw [if_neg e4_5] at h
  by_cases e5_6 : v1 = 6
  · rw [if_pos e5_6] at h
    refine ww_tabIn C 138 (dq dk_Walker_stepFlow 1 rfl) (by rw [e5_6]; decide) (by rw [e5_6]; decide) (by rw [e5_6]; rfl) (by decide) ?_
    refine ww_aload_n C 0 rfl rfl (dq dk_Walker_stepFlow 53 rfl) ?_
    refine ww_iload_n C 2 rfl rfl (dq dk_Walker_stepFlow 54 rfl) ?_
    refine ww_iconst C (dq dk_Walker_stepFlow 55 rfl) ic_1 ?_
    refine ww_cVi (st := []) C (c_Walker_goByRegister v0 ho_v0 v2 1) cw_Walker_goByRegister ho_v0 (lt_ rfl) rfl g_6_5 hRm ⟨⟨rfl, rfl⟩, le_ rfl, le_ rfl⟩ rfl rfl rfl (le_ rfl) (dq dk_Walker_stepFlow 56 rfl) h (fun x24 σ23 h => ?_)
    exact ww_iret C hR (dq dk_Walker_stepFlow 57 rfl) h
  rw [if_neg e5_6] at h
  by_cases e6_7 : v1 = 7
  · rw [if_pos e6_7] at h
    refine ww_tabIn C 145 (dq dk_Walker_stepFlow 1 rfl) (by rw [e6_7]; decide) (by rw [e6_7]; decide) (by rw [e6_7]; rfl) (by decide) ?_
    refine ww_aload_n C 0 rfl rfl (dq dk_Walker_stepFlow 58 rfl) ?_
    refine ww_cVi (st := []) C (c_Walker_goBack v0 ho_v0) cw_Walker_goBack ho_v0 (lt_ rfl) rfl g_6_10 hRm ⟨⟨rfl, rfl⟩, le_ rfl, le_ rfl⟩ rfl rfl rfl (le_ rfl) (dq dk_Walker_stepFlow 59 rfl) h (fun x26 σ25 h => ?_)
    exact ww_iret C hR (dq dk_Walker_stepFlow 60 rfl) h
  rw [if_neg e6_7] at h
  have ne0_1 := lv_neT (a := 1) e0_1 (by decide)
  have ne1_2 := lv_neT (a := 2) e1_2 (by decide)
  have ne2_3 := lv_neT (a := 3) e2_3 (by decide)
  have ne3_4 := lv_neT (a := 4) e3_4 (by decide)
  have ne4_5 := lv_neT (a := 5) e4_5 (by decide)
  have ne5_6 := lv_neT (a := 6) e5_6 (by decide)
  have ne6_7 := lv_neT (a := 7) e6_7 (by decide)
  refine ww_tabOut C 150 (dq dk_Walker_stepFlow 1 rfl) (by omega) (by decide) ?_
  refine ww_aload_n C 0 rfl rfl (dq dk_Walker_stepFlow 61 rfl) ?_
  refine ww_getr C ko_Walker 1 ho_v0 (lt_ rfl) g_2_143 rfl rfl (dq dk_Walker_stepFlow 62 rfl) ?_
  refine ww_iload_n C 3 rfl rfl (dq dk_Walker_stepFlow 63 rfl) ?_
  refine ww_aload_n C 0 rfl rfl (dq dk_Walker_stepFlow 64 rfl) ?_
  refine ww_getr C ko_Walker 0 ho_v0 (lt_ rfl) g_2_142 rfl rfl (dq dk_Walker_stepFlow 65 rfl) ?_
  refine ww_aload_n C 0 rfl rfl (dq dk_Walker_stepFlow 66 rfl) ?_
  refine ww_getr C ko_Walker 0 ho_v0 (lt_ rfl) g_2_142 rfl rfl (dq dk_Walker_stepFlow 67 rfl) ?_
  refine ww_iload_n C 2 rfl rfl (dq dk_Walker_stepFlow 68 rfl) ?_
  refine ww_cVi (st := [.ref (ad k (ch v0 0)), .int v3, .ref (ad k (ch v0 1))]) C (c_Program_labelItem (ch v0 0) (kc_Walker_0 _ ho_v0) v2) cw_Program_labelItem (kc_Walker_0 _ ho_v0) (lt_ rfl) rfl g_5_225 hRm ⟨⟨rfl, rfl⟩, le_ rfl, le_ rfl⟩ rfl rfl rfl (le_ rfl) (dq dk_Walker_stepFlow 69 rfl) h (fun x28 σ27 h => ?_)
  refine ww_cVi (st := [.int v3, .ref (ad k (ch v0 1))]) C (c_Program_addressOf (ch v0 0) (kc_Walker_0 _ ho_v0) x28) cw_Program_addressOf (kc_Walker_0 _ ho_v0) (lt_ rfl) rfl g_6_0 hRm ⟨⟨rfl, rfl⟩, le_ rfl, le_ rfl⟩ rfl rfl rfl (le_ rfl) (dq dk_Walker_stepFlow 70 rfl) h (fun x30 σ29 h => ?_)
  refine ww_cVv (st := []) C (c_Machine_give (ch v0 1) (kc_Walker_1 _ ho_v0) v3 x30) cw_Machine_give (kc_Walker_1 _ ho_v0) (lt_ rfl) rfl g_6_14 hRm ⟨⟨rfl, rfl⟩, le_ rfl, le_ rfl⟩ rfl rfl rfl (le_ rfl) (dq dk_Walker_stepFlow 71 rfl) h (fun σ31 h => ?_)
  refine ww_aload_n C 0 rfl rfl (dq dk_Walker_stepFlow 72 rfl) ?_
  refine ww_aload_n C 0 rfl rfl (dq dk_Walker_stepFlow 73 rfl) ?_
  refine ww_geti C ko_Walker 3 ho_v0 (lt_ rfl) g_2_145 rfl rfl (dq dk_Walker_stepFlow 74 rfl) ?_
  refine ww_iconst C (dq dk_Walker_stepFlow 75 rfl) ic_1 ?_
  refine ww_iadd C (dq dk_Walker_stepFlow 76 rfl) ?_
  refine ww_cVi (st := []) C (c_Walker_goTo v0 ho_v0 ((σ31 v0 3) + 1)) cw_Walker_goTo ho_v0 (lt_ rfl) rfl g_5_210 hRm ⟨⟨rfl, rfl⟩, le_ rfl, le_ rfl⟩ rfl rfl rfl (le_ rfl) (dq dk_Walker_stepFlow 77 rfl) h (fun x33 σ32 h => ?_)
  exact ww_iret C hR (dq dk_Walker_stepFlow 78 rfl) h
abbrev y_Walker_stepPlain : MethodName := ⟨"BundleHouse$Walker", "stepPlain", "()I"⟩
def dl_Walker_stepPlain : List (Nat × Instr × Nat) := [(0, .aload_n 0, 1), (1, .getfield 18, 3), (4, .aload_n 0, 1), (5, .getfield 32, 3), (8, .aload_n 0, 1), (9, .getfield 12, 3), (12, .invokevirtual 132, 3), (15, .aload_n 0, 1), (16, .getfield 12, 3), (19, .getfield 136, 3), (22, .bipush 22, 2), (24, .if_icmp .ne 9, 3), (27, .aload_n 0, 1), (28, .iconst 1, 1), (29, .invokevirtual 43, 3), (32, .ireturn, 1), (33, .aload_n 0, 1), (34, .getfield 22, 3), (37, .aload_n 0, 1), (38, .getfield 12, 3), (41, .invokevirtual 139, 3), (44, .istore_n 1, 1), (45, .iload_n 1, 1), (46, .iconst (-1), 1), (47, .if_icmp .ne 16, 3), (50, .aload_n 0, 1), (51, .aload_n 0, 1), (52, .getfield 32, 3), (55, .iconst 1, 1), (56, .iadd, 1), (57, .invokevirtual 100, 3), (60, .goto 4, 3), (63, .iload_n 1, 1), (64, .ireturn, 1)]
set_option maxRecDepth 100000 in
theorem dk_Walker_stepPlain : ∀ q ∈ dl_Walker_stepPlain, decode prog_12_method_7_code q.1 = .ok q.2 := by decide +kernel
abbrev rm_Walker_stepPlain : Room := { frames := 4, cells := 0, slots := 0, locals := 92 }
theorem cw_Walker_stepPlain : CWV y_Walker_stepPlain prog_12_method_7_code 2 (some .int) 0 := ⟨⟨g_5_218, g_1_12, by decide, by decide, by decide +kernel⟩, g_5_217, gs_4_8⟩
set_option maxHeartbeats 4000000 in
set_option maxRecDepth 100000 in
theorem c_Walker_stepPlain (v0 : Nat) (ho_v0 : kd v0 = 11) : MI y_Walker_stepPlain rm_Walker_stepPlain prog_12_method_7_code 2 .int (fun a => [.ref (a v0)]) (Walker_stepPlain v0) := by
  refine mi_of (by decide) (fun _ => le_ rfl) ?_
  intro k res σ C hR hRm hnL h
  unfold Walker_stepPlain at h
  show WW k 0 [(0, .ref (ad k v0))] [] σ
  refine ww_aload_n C 0 rfl rfl (dq dk_Walker_stepPlain 0 rfl) ?_
  refine ww_getr C ko_Walker 0 ho_v0 (lt_ rfl) g_2_142 rfl rfl (dq dk_Walker_stepPlain 1 rfl) ?_
  refine ww_aload_n C 0 rfl rfl (dq dk_Walker_stepPlain 2 rfl) ?_
  refine ww_geti C ko_Walker 3 ho_v0 (lt_ rfl) g_2_145 rfl rfl (dq dk_Walker_stepPlain 3 rfl) ?_
  refine ww_aload_n C 0 rfl rfl (dq dk_Walker_stepPlain 4 rfl) ?_
  refine ww_getr C ko_Walker 2 ho_v0 (lt_ rfl) g_2_144 rfl rfl (dq dk_Walker_stepPlain 5 rfl) ?_
  refine ww_cVv (st := []) C (c_Program_loadItem (ch v0 0) (kc_Walker_0 _ ho_v0) (σ v0 3) (ch v0 2) (kc_Walker_2 _ ho_v0)) cw_Program_loadItem (kc_Walker_0 _ ho_v0) (lt_ rfl) rfl g_5_219 hRm ⟨⟨rfl, rfl⟩, le_ rfl, le_ rfl⟩ rfl rfl rfl (le_ rfl) (dq dk_Walker_stepPlain 6 rfl) h (fun σ1 h => ?_)
  refine ww_aload_n C 0 rfl rfl (dq dk_Walker_stepPlain 7 rfl) ?_
  refine ww_getr C ko_Walker 2 ho_v0 (lt_ rfl) g_2_144 rfl rfl (dq dk_Walker_stepPlain 8 rfl) ?_
  refine ww_geti C ko_Instruction 0 (kc_Walker_2 _ ho_v0) (lt_ rfl) g_1_74 rfl rfl (dq dk_Walker_stepPlain 9 rfl) ?_
  refine ww_bipush C (dq dk_Walker_stepPlain 10 rfl) bp_22 ?_
  refine ww_icmp_ne C 33 (dq dk_Walker_stepPlain 11 rfl) (by decide) h (fun h => ?_) (fun h => ?_)
  · refine ww_aload_n C 0 rfl rfl (dq dk_Walker_stepPlain 16 rfl) ?_
    refine ww_getr C ko_Walker 1 ho_v0 (lt_ rfl) g_2_143 rfl rfl (dq dk_Walker_stepPlain 17 rfl) ?_
    refine ww_aload_n C 0 rfl rfl (dq dk_Walker_stepPlain 18 rfl) ?_
    refine ww_getr C ko_Walker 2 ho_v0 (lt_ rfl) g_2_144 rfl rfl (dq dk_Walker_stepPlain 19 rfl) ?_
    refine ww_cVi (st := []) C (c_Machine_perform (ch v0 1) (kc_Walker_1 _ ho_v0) (ch v0 2) (kc_Walker_2 _ ho_v0)) cw_Machine_perform (kc_Walker_1 _ ho_v0) (lt_ rfl) rfl g_5_220 hRm ⟨⟨rfl, rfl⟩, le_ rfl, le_ rfl⟩ rfl rfl rfl (le_ rfl) (dq dk_Walker_stepPlain 20 rfl) h (fun x3 σ2 h => ?_)
    refine ww_istore_n C [(1, .int x3), (0, .ref (ad k v0))] rfl hnL (lt_ rfl) rfl (dq dk_Walker_stepPlain 21 rfl) ?_
    refine ww_iload_n C 0 rfl rfl (dq dk_Walker_stepPlain 22 rfl) ?_
    refine ww_iconst C (dq dk_Walker_stepPlain 23 rfl) ic_m1 ?_
    refine ww_icmp_ne C 63 (dq dk_Walker_stepPlain 24 rfl) (by decide) h (fun h => ?_) (fun h => ?_)
    · refine ww_iload_n C 0 rfl rfl (dq dk_Walker_stepPlain 32 rfl) ?_
      exact ww_iret C hR (dq dk_Walker_stepPlain 33 rfl) h
    · refine ww_aload_n C 1 rfl rfl (dq dk_Walker_stepPlain 25 rfl) ?_
      refine ww_aload_n C 1 rfl rfl (dq dk_Walker_stepPlain 26 rfl) ?_
      refine ww_geti C ko_Walker 3 ho_v0 (lt_ rfl) g_2_145 rfl rfl (dq dk_Walker_stepPlain 27 rfl) ?_
      refine ww_iconst C (dq dk_Walker_stepPlain 28 rfl) ic_1 ?_
      refine ww_iadd C (dq dk_Walker_stepPlain 29 rfl) ?_
      refine ww_cVi (st := []) C (c_Walker_goTo v0 ho_v0 ((σ2 v0 3) + 1)) cw_Walker_goTo ho_v0 (lt_ rfl) rfl g_5_210 hRm ⟨⟨rfl, rfl⟩, le_ rfl, le_ rfl⟩ rfl rfl rfl (le_ rfl) (dq dk_Walker_stepPlain 30 rfl) h (fun x5 σ4 h => ?_)
      refine ww_goto C 64 (dq dk_Walker_stepPlain 31 rfl) (by decide) ?_
      exact ww_iret C hR (dq dk_Walker_stepPlain 33 rfl) h
  · refine ww_aload_n C 0 rfl rfl (dq dk_Walker_stepPlain 12 rfl) ?_
    refine ww_iconst C (dq dk_Walker_stepPlain 13 rfl) ic_1 ?_
    refine ww_cVi (st := []) C (c_Walker_standStill v0 ho_v0 1) cw_Walker_standStill ho_v0 (lt_ rfl) rfl g_5_195 hRm ⟨⟨rfl, rfl⟩, le_ rfl, le_ rfl⟩ rfl rfl rfl (le_ rfl) (dq dk_Walker_stepPlain 14 rfl) h (fun x7 σ6 h => ?_)
    exact ww_iret C hR (dq dk_Walker_stepPlain 15 rfl) h
abbrev y_Walker_goOn : MethodName := ⟨"BundleHouse$Walker", "goOn", "(I)I"⟩
def dl_Walker_goOn : List (Nat × Instr × Nat) := [(0, .iconst (-1), 1), (1, .istore_n 2, 1), (2, .aload_n 0, 1), (3, .aload_n 0, 1), (4, .getfield 18, 3), (7, .iconst 0, 1), (8, .invokevirtual 26, 3), (11, .putfield 32, 3), (14, .iconst 0, 1), (15, .istore_n 3, 1), (16, .iload_n 3, 1), (17, .iload_n 1, 1), (18, .if_icmp .ge 127, 3), (21, .iload_n 2, 1), (22, .iconst (-1), 1), (23, .if_icmp .ne 122, 3), (26, .aload_n 0, 1), (27, .getfield 32, 3), (30, .ifCond .ge 20, 3), (33, .aload_n 0, 1), (34, .iconst (-1), 1), (35, .aload_n 0, 1), (36, .getfield 32, 3), (39, .isub, 1), (40, .bipush 16, 2), (42, .imul, 1), (43, .invokevirtual 36, 3), (46, .istore_n 2, 1), (47, .goto 92, 3), (50, .aload_n 0, 1), (51, .getfield 18, 3), (54, .aload_n 0, 1), (55, .getfield 32, 3), (58, .invokevirtual 39, 3), (61, .ifCond .ne 12, 3), (64, .aload_n 0, 1), (65, .iconst 1, 1), (66, .invokevirtual 43, 3), (69, .istore_n 2, 1), (70, .goto 69, 3), (73, .aload_n 0, 1), (74, .getfield 18, 3), (77, .getfield 46, 3), (80, .aload_n 0, 1), (81, .getfield 32, 3), (84, .iaload, 1), (85, .bipush 9, 2), (87, .if_icmp .ne 11, 3), (90, .aload_n 0, 1), (91, .invokevirtual 50, 3), (94, .istore_n 2, 1), (95, .goto 44, 3), (98, .aload_n 0, 1), (99, .aload_n 0, 1), (100, .getfield 18, 3), (103, .getfield 46, 3), (106, .aload_n 0, 1), (107, .getfield 32, 3), (110, .iaload, 1), (111, .aload_n 0, 1), (112, .getfield 18, 3), (115, .getfield 54, 3), (118, .aload_n 0, 1), (119, .getfield 32, 3), (122, .iaload, 1), (123, .aload_n 0, 1), (124, .getfield 18, 3), (127, .getfield 57, 3), (130, .aload_n 0, 1), (131, .getfield 32, 3), (134, .iaload, 1), (135, .invokevirtual 60, 3), (138, .istore_n 2, 1), (139, .iinc 3 1, 3), (142, .goto (-126), 3), (145, .aload_n 0, 1), (146, .getfield 22, 3), (149, .aload_n 0, 1), (150, .getfield 18, 3), (153, .aload_n 0, 1), (154, .getfield 32, 3), (157, .invokevirtual 64, 3), (160, .putfield 67, 3), (163, .aload_n 0, 1), (164, .getfield 22, 3), (167, .iload_n 2, 1), (168, .iconst (-1), 1), (169, .if_icmp .ne 7, 3), (172, .iconst 0, 1), (173, .goto 4, 3), (176, .iload_n 2, 1), (177, .putfield 72, 3), (180, .aload_n 0, 1), (181, .getfield 22, 3), (184, .getfield 72, 3), (187, .ireturn, 1)]
set_option maxRecDepth 100000 in
theorem dk_Walker_goOn : ∀ q ∈ dl_Walker_goOn, decode prog_12_method_2_code q.1 = .ok q.2 := by decide +kernel
abbrev rm_Walker_goOn : Room := { frames := 5, cells := 0, slots := 0, locals := 113 }
theorem cw_Walker_goOn : CWV y_Walker_goOn prog_12_method_2_code 4 (some .int) 1 := ⟨⟨g_5_185, g_1_12, by decide, by decide, by decide +kernel⟩, g_5_183, g_5_184⟩
set_option maxHeartbeats 4000000 in
set_option maxRecDepth 100000 in
theorem t_Walker_goOn_B145 {k : Cfg} {res : Int32 × St} (C : Cx k prog_12_method_2_code "BundleHouse$Walker") (hR : RI k .int res) (hRm : k.2.2.2.1 = rm_Walker_goOn) (hnL : k.2.2.2.2.2.2.2.2.2.2.2.1 = 4) (v0 : Nat) (v2 : Int32) (ho_v0 : kd v0 = 11) (σ : St) (h : Walker_goOn_B145 v0 v2 σ = some res) : WW k 145 [(0, .ref (ad k v0)), (2, .int v2)] [] σ := by
  unfold Walker_goOn_B145 at h
  refine ww_aload_n C 0 rfl rfl (dq dk_Walker_goOn 75 rfl) ?_
  refine ww_getr C ko_Walker 1 ho_v0 (lt_ rfl) g_2_143 rfl rfl (dq dk_Walker_goOn 76 rfl) ?_
  refine ww_aload_n C 0 rfl rfl (dq dk_Walker_goOn 77 rfl) ?_
  refine ww_getr C ko_Walker 0 ho_v0 (lt_ rfl) g_2_142 rfl rfl (dq dk_Walker_goOn 78 rfl) ?_
  refine ww_aload_n C 0 rfl rfl (dq dk_Walker_goOn 79 rfl) ?_
  refine ww_geti C ko_Walker 3 ho_v0 (lt_ rfl) g_2_145 rfl rfl (dq dk_Walker_goOn 80 rfl) ?_
  refine ww_cVi (st := [.ref (ad k (ch v0 1))]) C (c_Program_addressOf (ch v0 0) (kc_Walker_0 _ ho_v0) (σ v0 3)) cw_Program_addressOf (kc_Walker_0 _ ho_v0) (lt_ rfl) rfl g_6_0 hRm ⟨⟨rfl, rfl⟩, le_ rfl, le_ rfl⟩ rfl rfl rfl (le_ rfl) (dq dk_Walker_goOn 81 rfl) h (fun x2 σ1 h => ?_)
  refine ww_puti C ko_Machine 1 (kc_Walker_1 _ ho_v0) (lt_ rfl) g_2_68 rfl rfl rfl rfl (dq dk_Walker_goOn 82 rfl) h (fun σ3 h => ?_)
  refine ww_aload_n C 0 rfl rfl (dq dk_Walker_goOn 83 rfl) ?_
  refine ww_getr C ko_Walker 1 ho_v0 (lt_ rfl) g_2_143 rfl rfl (dq dk_Walker_goOn 84 rfl) ?_
  refine ww_iload_n C 1 rfl rfl (dq dk_Walker_goOn 85 rfl) ?_
  refine ww_iconst C (dq dk_Walker_goOn 86 rfl) ic_m1 ?_
  refine ww_icmp_ne C 176 (dq dk_Walker_goOn 87 rfl) (by decide) h (fun h => ?_) (fun h => ?_)
  · refine ww_iload_n C 1 rfl rfl (dq dk_Walker_goOn 90 rfl) ?_
    refine ww_puti C ko_Machine 3 (kc_Walker_1 _ ho_v0) (lt_ rfl) g_2_74 rfl rfl rfl rfl (dq dk_Walker_goOn 91 rfl) h (fun σ4 h => ?_)
    refine ww_aload_n C 0 rfl rfl (dq dk_Walker_goOn 92 rfl) ?_
    refine ww_getr C ko_Walker 1 ho_v0 (lt_ rfl) g_2_143 rfl rfl (dq dk_Walker_goOn 93 rfl) ?_
    refine ww_geti C ko_Machine 3 (kc_Walker_1 _ ho_v0) (lt_ rfl) g_2_74 rfl rfl (dq dk_Walker_goOn 94 rfl) ?_
    exact ww_iret C hR (dq dk_Walker_goOn 95 rfl) h
  · refine ww_iconst C (dq dk_Walker_goOn 88 rfl) ic_0 ?_
    refine ww_goto C 177 (dq dk_Walker_goOn 89 rfl) (by decide) ?_
    refine ww_puti C ko_Machine 3 (kc_Walker_1 _ ho_v0) (lt_ rfl) g_2_74 rfl rfl rfl rfl (dq dk_Walker_goOn 91 rfl) h (fun σ5 h => ?_)
    refine ww_aload_n C 0 rfl rfl (dq dk_Walker_goOn 92 rfl) ?_
    refine ww_getr C ko_Walker 1 ho_v0 (lt_ rfl) g_2_143 rfl rfl (dq dk_Walker_goOn 93 rfl) ?_
    refine ww_geti C ko_Machine 3 (kc_Walker_1 _ ho_v0) (lt_ rfl) g_2_74 rfl rfl (dq dk_Walker_goOn 94 rfl) ?_
    exact ww_iret C hR (dq dk_Walker_goOn 95 rfl) h
set_option maxHeartbeats 4000000 in
set_option maxRecDepth 100000 in
theorem t_Walker_goOn_B16 {k : Cfg} {res : Int32 × St} (C : Cx k prog_12_method_2_code "BundleHouse$Walker") (hR : RI k .int res) (hRm : k.2.2.2.1 = rm_Walker_goOn) (hnL : k.2.2.2.2.2.2.2.2.2.2.2.1 = 4) : ∀ (n : Nat) (v0 : Nat) (v1 : Int32) (v2 : Int32) (v3 : Int32) (ho_v0 : kd v0 = 11) (σ : St), Walker_goOn_B16 n v0 v1 v2 v3 σ = some res → WW k 16 [(0, .ref (ad k v0)), (1, .int v1), (2, .int v2), (3, .int v3)] [] σ := by
  intro n
  induction n with
  | zero =>
    intro v0 v1 v2 v3 ho_v0 σ h
    have h : (none : Option (Int32 × St)) = some res := h
    cases h
  | succ n ih =>
    intro v0 v1 v2 v3 ho_v0 σ h
    unfold Walker_goOn_B16 at h
    refine ww_iload_n C 3 rfl rfl (dq dk_Walker_goOn 10 rfl) ?_
    refine ww_iload_n C 1 rfl rfl (dq dk_Walker_goOn 11 rfl) ?_
    refine ww_icmp_ge C 145 (dq dk_Walker_goOn 12 rfl) (by decide) h (fun h => ?_) (fun h => ?_)
    · exact ww_lv [0, 2] rfl (t_Walker_goOn_B145 C hR hRm hnL v0 v2 ho_v0 σ h)
    · refine ww_iload_n C 2 rfl rfl (dq dk_Walker_goOn 13 rfl) ?_
      refine ww_iconst C (dq dk_Walker_goOn 14 rfl) ic_m1 ?_
      refine ww_icmp_ne C 145 (dq dk_Walker_goOn 15 rfl) (by decide) h (fun h => ?_) (fun h => ?_)
      · exact ww_lv [0, 2] rfl (t_Walker_goOn_B145 C hR hRm hnL v0 v2 ho_v0 σ h)
      · refine ww_aload_n C 0 rfl rfl (dq dk_Walker_goOn 16 rfl) ?_
        refine ww_geti C ko_Walker 3 ho_v0 (lt_ rfl) g_2_145 rfl rfl (dq dk_Walker_goOn 17 rfl) ?_
        refine ww_if_ge C 50 (dq dk_Walker_goOn 18 rfl) (by decide) h (fun h => ?_) (fun h => ?_)
        · refine ww_aload_n C 0 rfl rfl (dq dk_Walker_goOn 29 rfl) ?_
          refine ww_getr C ko_Walker 0 ho_v0 (lt_ rfl) g_2_142 rfl rfl (dq dk_Walker_goOn 30 rfl) ?_
          refine ww_aload_n C 0 rfl rfl (dq dk_Walker_goOn 31 rfl) ?_
          refine ww_geti C ko_Walker 3 ho_v0 (lt_ rfl) g_2_145 rfl rfl (dq dk_Walker_goOn 32 rfl) ?_
          refine ww_cVi (st := []) C (c_Program_hasItem (ch v0 0) (kc_Walker_0 _ ho_v0) (σ v0 3)) cw_Program_hasItem (kc_Walker_0 _ ho_v0) (lt_ rfl) rfl g_5_214 hRm ⟨⟨rfl, rfl⟩, le_ rfl, le_ rfl⟩ rfl rfl rfl (le_ rfl) (dq dk_Walker_goOn 33 rfl) h (fun x2 σ1 h => ?_)
          refine ww_if_ne C 73 (dq dk_Walker_goOn 34 rfl) (by decide) h (fun h => ?_) (fun h => ?_)
          · refine ww_aload_n C 0 rfl rfl (dq dk_Walker_goOn 40 rfl) ?_
            refine ww_getr C ko_Walker 0 ho_v0 (lt_ rfl) g_2_142 rfl rfl (dq dk_Walker_goOn 41 rfl) ?_
            refine ww_getr C ko_Program 0 (kc_Walker_0 _ ho_v0) (lt_ rfl) g_1_176 rfl rfl (dq dk_Walker_goOn 42 rfl) ?_
            refine ww_aload_n C 0 rfl rfl (dq dk_Walker_goOn 43 rfl) ?_
            refine ww_geti C ko_Walker 3 ho_v0 (lt_ rfl) g_2_145 rfl rfl (dq dk_Walker_goOn 44 rfl) ?_
            refine ww_iald C (kc_Program_0 _ (kc_Walker_0 _ ho_v0)).1 (kc_Program_0 _ (kc_Walker_0 _ ho_v0)).2 (dq dk_Walker_goOn 45 rfl) h (fun x3 h => ?_)
            refine ww_bipush C (dq dk_Walker_goOn 46 rfl) bp_9 ?_
            refine ww_icmp_ne C 98 (dq dk_Walker_goOn 47 rfl) (by decide) h (fun h => ?_) (fun h => ?_)
            · refine ww_aload_n C 0 rfl rfl (dq dk_Walker_goOn 52 rfl) ?_
              refine ww_aload_n C 0 rfl rfl (dq dk_Walker_goOn 53 rfl) ?_
              refine ww_getr C ko_Walker 0 ho_v0 (lt_ rfl) g_2_142 rfl rfl (dq dk_Walker_goOn 54 rfl) ?_
              refine ww_getr C ko_Program 0 (kc_Walker_0 _ ho_v0) (lt_ rfl) g_1_176 rfl rfl (dq dk_Walker_goOn 55 rfl) ?_
              refine ww_aload_n C 0 rfl rfl (dq dk_Walker_goOn 56 rfl) ?_
              refine ww_geti C ko_Walker 3 ho_v0 (lt_ rfl) g_2_145 rfl rfl (dq dk_Walker_goOn 57 rfl) ?_
              refine ww_iald C (kc_Program_0 _ (kc_Walker_0 _ ho_v0)).1 (kc_Program_0 _ (kc_Walker_0 _ ho_v0)).2 (dq dk_Walker_goOn 58 rfl) h (fun x4 h => ?_)
              refine ww_aload_n C 0 rfl rfl (dq dk_Walker_goOn 59 rfl) ?_
              refine ww_getr C ko_Walker 0 ho_v0 (lt_ rfl) g_2_142 rfl rfl (dq dk_Walker_goOn 60 rfl) ?_
              refine ww_getr C ko_Program 1 (kc_Walker_0 _ ho_v0) (lt_ rfl) g_1_179 rfl rfl (dq dk_Walker_goOn 61 rfl) ?_
              refine ww_aload_n C 0 rfl rfl (dq dk_Walker_goOn 62 rfl) ?_
              refine ww_geti C ko_Walker 3 ho_v0 (lt_ rfl) g_2_145 rfl rfl (dq dk_Walker_goOn 63 rfl) ?_
              refine ww_iald C (kc_Program_1 _ (kc_Walker_0 _ ho_v0)).1 (kc_Program_1 _ (kc_Walker_0 _ ho_v0)).2 (dq dk_Walker_goOn 64 rfl) h (fun x5 h => ?_)
              refine ww_aload_n C 0 rfl rfl (dq dk_Walker_goOn 65 rfl) ?_
              refine ww_getr C ko_Walker 0 ho_v0 (lt_ rfl) g_2_142 rfl rfl (dq dk_Walker_goOn 66 rfl) ?_
              refine ww_getr C ko_Program 2 (kc_Walker_0 _ ho_v0) (lt_ rfl) g_1_182 rfl rfl (dq dk_Walker_goOn 67 rfl) ?_
              refine ww_aload_n C 0 rfl rfl (dq dk_Walker_goOn 68 rfl) ?_
              refine ww_geti C ko_Walker 3 ho_v0 (lt_ rfl) g_2_145 rfl rfl (dq dk_Walker_goOn 69 rfl) ?_
              refine ww_iald C (kc_Program_2 _ (kc_Walker_0 _ ho_v0)).1 (kc_Program_2 _ (kc_Walker_0 _ ho_v0)).2 (dq dk_Walker_goOn 70 rfl) h (fun x6 h => ?_)
              refine ww_cVi (st := []) C (c_Walker_stepFlow v0 ho_v0 x4 x5 x6) cw_Walker_stepFlow ho_v0 (lt_ rfl) rfl g_5_221 hRm ⟨⟨rfl, rfl⟩, le_ rfl, le_ rfl⟩ rfl rfl rfl (le_ rfl) (dq dk_Walker_goOn 71 rfl) h (fun x8 σ7 h => ?_)
              refine ww_istore_n C [(2, .int x8), (0, .ref (ad k v0)), (1, .int v1), (3, .int v3)] rfl hnL (lt_ rfl) rfl (dq dk_Walker_goOn 72 rfl) ?_
              refine ww_iinc C 3 (fun z => [(3, .int z), (2, .int x8), (0, .ref (ad k v0)), (1, .int v1)]) rfl ic_1 hnL (lt_ rfl) (fun _ => rfl) (dq dk_Walker_goOn 73 rfl) h (fun x9 h => ?_)
              refine ww_goto C 16 (dq dk_Walker_goOn 74 rfl) (by decide) ?_
              exact ww_lv [2, 3, 1, 0] rfl (ih v0 v1 x8 x9 ho_v0 σ7 h)
            · refine ww_aload_n C 0 rfl rfl (dq dk_Walker_goOn 48 rfl) ?_
              refine ww_cVi (st := []) C (c_Walker_stepPlain v0 ho_v0) cw_Walker_stepPlain ho_v0 (lt_ rfl) rfl g_5_215 hRm ⟨⟨rfl, rfl⟩, le_ rfl, le_ rfl⟩ rfl rfl rfl (le_ rfl) (dq dk_Walker_goOn 49 rfl) h (fun x11 σ10 h => ?_)
              refine ww_istore_n C [(2, .int x11), (0, .ref (ad k v0)), (1, .int v1), (3, .int v3)] rfl hnL (lt_ rfl) rfl (dq dk_Walker_goOn 50 rfl) ?_
              refine ww_goto C 139 (dq dk_Walker_goOn 51 rfl) (by decide) ?_
              refine ww_iinc C 3 (fun z => [(3, .int z), (2, .int x11), (0, .ref (ad k v0)), (1, .int v1)]) rfl ic_1 hnL (lt_ rfl) (fun _ => rfl) (dq dk_Walker_goOn 73 rfl) h (fun x12 h => ?_)
              refine ww_goto C 16 (dq dk_Walker_goOn 74 rfl) (by decide) ?_
              exact ww_lv [2, 3, 1, 0] rfl (ih v0 v1 x11 x12 ho_v0 σ10 h)
          · refine ww_aload_n C 0 rfl rfl (dq dk_Walker_goOn 35 rfl) ?_
            refine ww_iconst C (dq dk_Walker_goOn 36 rfl) ic_1 ?_
            refine ww_cVi (st := []) C (c_Walker_standStill v0 ho_v0 1) cw_Walker_standStill ho_v0 (lt_ rfl) rfl g_5_195 hRm ⟨⟨rfl, rfl⟩, le_ rfl, le_ rfl⟩ rfl rfl rfl (le_ rfl) (dq dk_Walker_goOn 37 rfl) h (fun x14 σ13 h => ?_)
            refine ww_istore_n C [(2, .int x14), (0, .ref (ad k v0)), (1, .int v1), (3, .int v3)] rfl hnL (lt_ rfl) rfl (dq dk_Walker_goOn 38 rfl) ?_
            refine ww_goto C 139 (dq dk_Walker_goOn 39 rfl) (by decide) ?_
            refine ww_iinc C 3 (fun z => [(3, .int z), (2, .int x14), (0, .ref (ad k v0)), (1, .int v1)]) rfl ic_1 hnL (lt_ rfl) (fun _ => rfl) (dq dk_Walker_goOn 73 rfl) h (fun x15 h => ?_)
            refine ww_goto C 16 (dq dk_Walker_goOn 74 rfl) (by decide) ?_
            exact ww_lv [2, 3, 1, 0] rfl (ih v0 v1 x14 x15 ho_v0 σ13 h)
        · refine ww_aload_n C 0 rfl rfl (dq dk_Walker_goOn 19 rfl) ?_
          refine ww_iconst C (dq dk_Walker_goOn 20 rfl) ic_m1 ?_
          refine ww_aload_n C 0 rfl rfl (dq dk_Walker_goOn 21 rfl) ?_
          refine ww_geti C ko_Walker 3 ho_v0 (lt_ rfl) g_2_145 rfl rfl (dq dk_Walker_goOn 22 rfl) ?_
          refine ww_isub C (dq dk_Walker_goOn 23 rfl) ?_
          refine ww_bipush C (dq dk_Walker_goOn 24 rfl) bp_16 ?_
          refine ww_imul C (dq dk_Walker_goOn 25 rfl) ?_
          refine ww_cVi (st := []) C (c_Walker_serve v0 ho_v0 (((-1) - (σ v0 3)) * 16)) cw_Walker_serve ho_v0 (lt_ rfl) rfl g_5_191 hRm ⟨⟨rfl, rfl⟩, le_ rfl, le_ rfl⟩ rfl rfl rfl (le_ rfl) (dq dk_Walker_goOn 26 rfl) h (fun x17 σ16 h => ?_)
          refine ww_istore_n C [(2, .int x17), (0, .ref (ad k v0)), (1, .int v1), (3, .int v3)] rfl hnL (lt_ rfl) rfl (dq dk_Walker_goOn 27 rfl) ?_
          refine ww_goto C 139 (dq dk_Walker_goOn 28 rfl) (by decide) ?_
          refine ww_iinc C 3 (fun z => [(3, .int z), (2, .int x17), (0, .ref (ad k v0)), (1, .int v1)]) rfl ic_1 hnL (lt_ rfl) (fun _ => rfl) (dq dk_Walker_goOn 73 rfl) h (fun x18 h => ?_)
          refine ww_goto C 16 (dq dk_Walker_goOn 74 rfl) (by decide) ?_
          exact ww_lv [2, 3, 1, 0] rfl (ih v0 v1 x17 x18 ho_v0 σ16 h)
set_option maxHeartbeats 4000000 in
set_option maxRecDepth 100000 in
theorem c_Walker_goOn (v0 : Nat) (ho_v0 : kd v0 = 11) (v1 : Int32) : MI y_Walker_goOn rm_Walker_goOn prog_12_method_2_code 4 .int (fun a => [.ref (a v0), .int v1]) (Walker_goOn v0 v1) := by
  refine mi_of (by decide) (fun _ => le_ rfl) ?_
  intro k res σ C hR hRm hnL h
  unfold Walker_goOn at h
  show WW k 0 [(0, .ref (ad k v0)), (1, .int v1)] [] σ
  refine ww_iconst C (dq dk_Walker_goOn 0 rfl) ic_m1 ?_
  refine ww_istore_n C [(2, .int (-1)), (0, .ref (ad k v0)), (1, .int v1)] rfl hnL (lt_ rfl) rfl (dq dk_Walker_goOn 1 rfl) ?_
  refine ww_aload_n C 1 rfl rfl (dq dk_Walker_goOn 2 rfl) ?_
  refine ww_aload_n C 1 rfl rfl (dq dk_Walker_goOn 3 rfl) ?_
  refine ww_getr C ko_Walker 0 ho_v0 (lt_ rfl) g_2_142 rfl rfl (dq dk_Walker_goOn 4 rfl) ?_
  refine ww_iconst C (dq dk_Walker_goOn 5 rfl) ic_0 ?_
  refine ww_cVi (st := [.ref (ad k v0)]) C (c_Program_pastLabels (ch v0 0) (kc_Walker_0 _ ho_v0) 0) cw_Program_pastLabels (kc_Walker_0 _ ho_v0) (lt_ rfl) rfl g_5_186 hRm ⟨⟨rfl, rfl⟩, le_ rfl, le_ rfl⟩ rfl rfl rfl (le_ rfl) (dq dk_Walker_goOn 6 rfl) h (fun x2 σ1 h => ?_)
  refine ww_puti C ko_Walker 3 ho_v0 (lt_ rfl) g_2_145 rfl rfl rfl rfl (dq dk_Walker_goOn 7 rfl) h (fun σ3 h => ?_)
  refine ww_iconst C (dq dk_Walker_goOn 8 rfl) ic_0 ?_
  refine ww_istore_n C [(3, .int 0), (2, .int (-1)), (0, .ref (ad k v0)), (1, .int v1)] rfl hnL (lt_ rfl) rfl (dq dk_Walker_goOn 9 rfl) ?_
  exact ww_lv [2, 3, 1, 0] rfl (t_Walker_goOn_B16 C hR hRm hnL FU v0 v1 (-1) 0 ho_v0 σ3 h)
abbrev y_House_feed : MethodName := ⟨"BundleHouse", "feed", "(IIIII)Z"⟩
def dl_House_feed : List (Nat × Instr × Nat) := [(0, .aload_n 0, 1), (1, .getfield 12, 3), (4, .getfield 92, 3), (7, .sipush 1080, 3), (10, .if_icmp .le 5, 3), (13, .iconst 0, 1), (14, .ireturn, 1), (15, .aload_n 0, 1), (16, .getfield 12, 3), (19, .iload_n 1, 1), (20, .invokevirtual 95, 3), (23, .aload_n 0, 1), (24, .getfield 12, 3), (27, .iload_n 2, 1), (28, .invokevirtual 95, 3), (31, .aload_n 0, 1), (32, .getfield 12, 3), (35, .iload_n 3, 1), (36, .invokevirtual 95, 3), (39, .aload_n 0, 1), (40, .getfield 12, 3), (43, .iload 4, 2), (45, .invokevirtual 95, 3), (48, .aload_n 0, 1), (49, .getfield 12, 3), (52, .iload 5, 2), (54, .invokevirtual 95, 3), (57, .iconst 1, 1), (58, .ireturn, 1)]
set_option maxRecDepth 100000 in
theorem dk_House_feed : ∀ q ∈ dl_House_feed, decode prog_1_method_2_code q.1 = .ok q.2 := by decide +kernel
abbrev rm_House_feed : Room := { frames := 1, cells := 0, slots := 0, locals := 22 }
theorem cw_House_feed : CWV y_House_feed prog_1_method_2_code 6 (some .boolean) 5 := ⟨⟨g_2_207, g_1_1, by decide, by decide, by decide +kernel⟩, g_2_205, g_2_206⟩
set_option maxHeartbeats 4000000 in
set_option maxRecDepth 100000 in
theorem c_House_feed (v0 : Nat) (ho_v0 : kd v0 = 0) (v1 : Int32) (v2 : Int32) (v3 : Int32) (v4 : Int32) (v5 : Int32) : MI y_House_feed rm_House_feed prog_1_method_2_code 6 .boolean (fun a => [.ref (a v0), .int v1, .int v2, .int v3, .int v4, .int v5]) (House_feed v0 v1 v2 v3 v4 v5) := by
  refine mi_of (by decide) (fun _ => le_ rfl) ?_
  intro k res σ C hR hRm hnL h
  unfold House_feed at h
  show WW k 0 [(0, .ref (ad k v0)), (1, .int v1), (2, .int v2), (3, .int v3), (4, .int v4), (5, .int v5)] [] σ
  refine ww_aload_n C 0 rfl rfl (dq dk_House_feed 0 rfl) ?_
  refine ww_getr C ko_House 0 ho_v0 (lt_ rfl) g_2_155 rfl rfl (dq dk_House_feed 1 rfl) ?_
  refine ww_geti C ko_Strip 2 (kc_House_0 _ ho_v0) (lt_ rfl) g_1_39 rfl rfl (dq dk_House_feed 2 rfl) ?_
  refine ww_sipush C (dq dk_House_feed 3 rfl) sp_1080 ?_
  refine ww_icmp_le C 15 (dq dk_House_feed 4 rfl) (by decide) h (fun h => ?_) (fun h => ?_)
  · refine ww_aload_n C 0 rfl rfl (dq dk_House_feed 7 rfl) ?_
    refine ww_getr C ko_House 0 ho_v0 (lt_ rfl) g_2_155 rfl rfl (dq dk_House_feed 8 rfl) ?_
    refine ww_iload_n C 1 rfl rfl (dq dk_House_feed 9 rfl) ?_
    refine ww_cVv (st := []) C (c_Strip_addFour (ch v0 0) (kc_House_0 _ ho_v0) v1) cw_Strip_addFour (kc_House_0 _ ho_v0) (lt_ rfl) rfl g_2_208 hRm ⟨⟨rfl, rfl⟩, le_ rfl, le_ rfl⟩ rfl rfl rfl (le_ rfl) (dq dk_House_feed 10 rfl) h (fun σ1 h => ?_)
    refine ww_aload_n C 0 rfl rfl (dq dk_House_feed 11 rfl) ?_
    refine ww_getr C ko_House 0 ho_v0 (lt_ rfl) g_2_155 rfl rfl (dq dk_House_feed 12 rfl) ?_
    refine ww_iload_n C 2 rfl rfl (dq dk_House_feed 13 rfl) ?_
    refine ww_cVv (st := []) C (c_Strip_addFour (ch v0 0) (kc_House_0 _ ho_v0) v2) cw_Strip_addFour (kc_House_0 _ ho_v0) (lt_ rfl) rfl g_2_208 hRm ⟨⟨rfl, rfl⟩, le_ rfl, le_ rfl⟩ rfl rfl rfl (le_ rfl) (dq dk_House_feed 14 rfl) h (fun σ2 h => ?_)
    refine ww_aload_n C 0 rfl rfl (dq dk_House_feed 15 rfl) ?_
    refine ww_getr C ko_House 0 ho_v0 (lt_ rfl) g_2_155 rfl rfl (dq dk_House_feed 16 rfl) ?_
    refine ww_iload_n C 3 rfl rfl (dq dk_House_feed 17 rfl) ?_
    refine ww_cVv (st := []) C (c_Strip_addFour (ch v0 0) (kc_House_0 _ ho_v0) v3) cw_Strip_addFour (kc_House_0 _ ho_v0) (lt_ rfl) rfl g_2_208 hRm ⟨⟨rfl, rfl⟩, le_ rfl, le_ rfl⟩ rfl rfl rfl (le_ rfl) (dq dk_House_feed 18 rfl) h (fun σ3 h => ?_)
    refine ww_aload_n C 0 rfl rfl (dq dk_House_feed 19 rfl) ?_
    refine ww_getr C ko_House 0 ho_v0 (lt_ rfl) g_2_155 rfl rfl (dq dk_House_feed 20 rfl) ?_
    refine ww_iload C 4 rfl (dq dk_House_feed 21 rfl) ?_
    refine ww_cVv (st := []) C (c_Strip_addFour (ch v0 0) (kc_House_0 _ ho_v0) v4) cw_Strip_addFour (kc_House_0 _ ho_v0) (lt_ rfl) rfl g_2_208 hRm ⟨⟨rfl, rfl⟩, le_ rfl, le_ rfl⟩ rfl rfl rfl (le_ rfl) (dq dk_House_feed 22 rfl) h (fun σ4 h => ?_)
    refine ww_aload_n C 0 rfl rfl (dq dk_House_feed 23 rfl) ?_
    refine ww_getr C ko_House 0 ho_v0 (lt_ rfl) g_2_155 rfl rfl (dq dk_House_feed 24 rfl) ?_
    refine ww_iload C 5 rfl (dq dk_House_feed 25 rfl) ?_
    refine ww_cVv (st := []) C (c_Strip_addFour (ch v0 0) (kc_House_0 _ ho_v0) v5) cw_Strip_addFour (kc_House_0 _ ho_v0) (lt_ rfl) rfl g_2_208 hRm ⟨⟨rfl, rfl⟩, le_ rfl, le_ rfl⟩ rfl rfl rfl (le_ rfl) (dq dk_House_feed 26 rfl) h (fun σ5 h => ?_)
    refine ww_iconst C (dq dk_House_feed 27 rfl) ic_1 ?_
    exact ww_zretL C hR (dq dk_House_feed 28 rfl) (Or.inr rfl) h
  · refine ww_iconst C (dq dk_House_feed 5 rfl) ic_0 ?_
    exact ww_zretL C hR (dq dk_House_feed 6 rfl) (Or.inl rfl) h
abbrev y_House_end : MethodName := ⟨"BundleHouse", "end", "(I)Z"⟩
def dl_House_end : List (Nat × Instr × Nat) := [(0, .iload_n 1, 1), (1, .ifCond .lt 14, 3), (4, .iload_n 1, 1), (5, .aload_n 0, 1), (6, .getfield 12, 3), (9, .getfield 92, 3), (12, .if_icmp .le 5, 3), (15, .iconst 0, 1), (16, .ireturn, 1), (17, .aload_n 0, 1), (18, .getfield 12, 3), (21, .iload_n 1, 1), (22, .putfield 92, 3), (25, .iconst 1, 1), (26, .ireturn, 1)]
set_option maxRecDepth 100000 in
theorem dk_House_end : ∀ q ∈ dl_House_end, decode prog_1_method_3_code q.1 = .ok q.2 := by decide +kernel
abbrev rm_House_end : Room := { frames := 0, cells := 0, slots := 0, locals := 0 }
theorem cw_House_end : CWV y_House_end prog_1_method_3_code 2 (some .boolean) 1 := ⟨⟨g_2_215, g_1_1, by decide, by decide, by decide +kernel⟩, g_2_213, g_2_214⟩
set_option maxHeartbeats 4000000 in
set_option maxRecDepth 100000 in
theorem c_House_end (v0 : Nat) (ho_v0 : kd v0 = 0) (v1 : Int32) : MI y_House_end rm_House_end prog_1_method_3_code 2 .boolean (fun a => [.ref (a v0), .int v1]) (House_end v0 v1) := by
  refine mi_of (by decide) (fun _ => le_ rfl) ?_
  intro k res σ C hR hRm hnL h
  unfold House_end at h
  show WW k 0 [(0, .ref (ad k v0)), (1, .int v1)] [] σ
  refine ww_iload_n C 1 rfl rfl (dq dk_House_end 0 rfl) ?_
  refine ww_if_lt C 15 (dq dk_House_end 1 rfl) (by decide) h (fun h => ?_) (fun h => ?_)
  · refine ww_iconst C (dq dk_House_end 7 rfl) ic_0 ?_
    exact ww_zretL C hR (dq dk_House_end 8 rfl) (Or.inl rfl) h
  · refine ww_iload_n C 1 rfl rfl (dq dk_House_end 2 rfl) ?_
    refine ww_aload_n C 0 rfl rfl (dq dk_House_end 3 rfl) ?_
    refine ww_getr C ko_House 0 ho_v0 (lt_ rfl) g_2_155 rfl rfl (dq dk_House_end 4 rfl) ?_
    refine ww_geti C ko_Strip 2 (kc_House_0 _ ho_v0) (lt_ rfl) g_1_39 rfl rfl (dq dk_House_end 5 rfl) ?_
    refine ww_icmp_le C 17 (dq dk_House_end 6 rfl) (by decide) h (fun h => ?_) (fun h => ?_)
    · refine ww_aload_n C 0 rfl rfl (dq dk_House_end 9 rfl) ?_
      refine ww_getr C ko_House 0 ho_v0 (lt_ rfl) g_2_155 rfl rfl (dq dk_House_end 10 rfl) ?_
      refine ww_iload_n C 1 rfl rfl (dq dk_House_end 11 rfl) ?_
      refine ww_puti C ko_Strip 2 (kc_House_0 _ ho_v0) (lt_ rfl) g_1_39 rfl rfl rfl rfl (dq dk_House_end 12 rfl) h (fun σ1 h => ?_)
      refine ww_iconst C (dq dk_House_end 13 rfl) ic_1 ?_
      exact ww_zretL C hR (dq dk_House_end 14 rfl) (Or.inr rfl) h
    · refine ww_iconst C (dq dk_House_end 7 rfl) ic_0 ?_
      exact ww_zretL C hR (dq dk_House_end 8 rfl) (Or.inl rfl) h
abbrev y_House_forgetRuns : MethodName := ⟨"BundleHouse", "forgetRuns", "()V"⟩
def dl_House_forgetRuns : List (Nat × Instr × Nat) := [(0, .aload_n 0, 1), (1, .getfield 64, 3), (4, .iconst 0, 1), (5, .putfield 224, 3), (8, .aload_n 0, 1), (9, .getfield 67, 3), (12, .iconst 0, 1), (13, .putfield 224, 3), (16, .return_, 1)]
set_option maxRecDepth 100000 in
theorem dk_House_forgetRuns : ∀ q ∈ dl_House_forgetRuns, decode prog_1_method_20_code q.1 = .ok q.2 := by decide +kernel
abbrev rm_House_forgetRuns : Room := { frames := 0, cells := 0, slots := 0, locals := 0 }
theorem cw_House_forgetRuns : CWV y_House_forgetRuns prog_1_method_20_code 1 none 0 := ⟨⟨g_3_92, g_1_1, by decide, by decide, by decide +kernel⟩, g_3_91, gs_2_1⟩
set_option maxHeartbeats 4000000 in
set_option maxRecDepth 100000 in
theorem c_House_forgetRuns (v0 : Nat) (ho_v0 : kd v0 = 0) : MV y_House_forgetRuns rm_House_forgetRuns prog_1_method_20_code 1 (fun a => [.ref (a v0)]) (House_forgetRuns v0) := by
  refine mv_of (by decide) (fun _ => le_ rfl) ?_
  intro k res σ C hR hRm hnL h
  unfold House_forgetRuns at h
  show WW k 0 [(0, .ref (ad k v0))] [] σ
  refine ww_aload_n C 0 rfl rfl (dq dk_House_forgetRuns 0 rfl) ?_
  refine ww_getr C ko_House 9 ho_v0 (lt_ rfl) g_2_164 rfl rfl (dq dk_House_forgetRuns 1 rfl) ?_
  refine ww_iconst C (dq dk_House_forgetRuns 2 rfl) ic_0 ?_
  refine ww_putZ C ko_Machine 6 (kc_House_9 _ ho_v0) (lt_ rfl) g_2_81 rfl rfl rfl rfl (Or.inl rfl) (dq dk_House_forgetRuns 3 rfl) h (fun σ1 h => ?_)
  refine ww_aload_n C 0 rfl rfl (dq dk_House_forgetRuns 4 rfl) ?_
  refine ww_getr C ko_House 10 ho_v0 (lt_ rfl) g_2_165 rfl rfl (dq dk_House_forgetRuns 5 rfl) ?_
  refine ww_iconst C (dq dk_House_forgetRuns 6 rfl) ic_0 ?_
  refine ww_putZ C ko_Machine 6 (kc_House_10 _ ho_v0) (lt_ rfl) g_2_81 rfl rfl rfl rfl (Or.inl rfl) (dq dk_House_forgetRuns 7 rfl) h (fun σ2 h => ?_)
  exact ww_vret C hR (dq dk_House_forgetRuns 8 rfl) h
abbrev y_House_check : MethodName := ⟨"BundleHouse", "check", "()I"⟩
def dl_House_check : List (Nat × Instr × Nat) := [(0, .aload_n 0, 1), (1, .aload_n 0, 1), (2, .getfield 21, 3), (5, .invokevirtual 99, 3), (8, .putfield 103, 3), (11, .aload_n 0, 1), (12, .aload_n 0, 1), (13, .getfield 21, 3), (16, .getfield 106, 3), (19, .putfield 88, 3), (22, .aload_n 0, 1), (23, .getfield 103, 3), (26, .ifCond .ne 23, 3), (29, .aload_n 0, 1), (30, .getfield 25, 3), (33, .aload_n 0, 1), (34, .getfield 12, 3), (37, .invokevirtual 109, 3), (40, .aload_n 0, 1), (41, .iconst 0, 1), (42, .putfield 112, 3), (45, .aload_n 0, 1), (46, .invokevirtual 116, 3), (49, .aload_n 0, 1), (50, .getfield 12, 3), (53, .iconst 0, 1), (54, .putfield 92, 3), (57, .aload_n 0, 1), (58, .getfield 103, 3), (61, .ireturn, 1)]
set_option maxRecDepth 100000 in
theorem dk_House_check : ∀ q ∈ dl_House_check, decode prog_1_method_4_code q.1 = .ok q.2 := by decide +kernel
abbrev rm_House_check : Room := { frames := 6, cells := 0, slots := 0, locals := 138 }
theorem cw_House_check : CWV y_House_check prog_1_method_4_code 1 (some .int) 0 := ⟨⟨g_2_219, g_1_1, by decide, by decide, by decide +kernel⟩, g_2_217, g_2_218⟩
set_option maxHeartbeats 4000000 in
set_option maxRecDepth 100000 in
theorem c_House_check (v0 : Nat) (ho_v0 : kd v0 = 0) : MI y_House_check rm_House_check prog_1_method_4_code 1 .int (fun a => [.ref (a v0)]) (House_check v0) := by
  refine mi_of (by decide) (fun _ => le_ rfl) ?_
  intro k res σ C hR hRm hnL h
  unfold House_check at h
  show WW k 0 [(0, .ref (ad k v0))] [] σ
  refine ww_aload_n C 0 rfl rfl (dq dk_House_check 0 rfl) ?_
  refine ww_aload_n C 0 rfl rfl (dq dk_House_check 1 rfl) ?_
  refine ww_getr C ko_House 1 ho_v0 (lt_ rfl) g_2_156 rfl rfl (dq dk_House_check 2 rfl) ?_
  refine ww_cVi (st := [.ref (ad k v0)]) C (c_Policy_findFault (ch v0 1) (kc_House_1 _ ho_v0)) cw_Policy_findFault (kc_House_1 _ ho_v0) (lt_ rfl) rfl g_2_220 hRm ⟨⟨rfl, rfl⟩, le_ rfl, le_ rfl⟩ rfl rfl rfl (le_ rfl) (dq dk_House_check 3 rfl) h (fun x2 σ1 h => ?_)
  refine ww_puti C ko_House 14 ho_v0 (lt_ rfl) g_2_169 rfl rfl rfl rfl (dq dk_House_check 4 rfl) h (fun σ3 h => ?_)
  refine ww_aload_n C 0 rfl rfl (dq dk_House_check 5 rfl) ?_
  refine ww_aload_n C 0 rfl rfl (dq dk_House_check 6 rfl) ?_
  refine ww_getr C ko_House 1 ho_v0 (lt_ rfl) g_2_156 rfl rfl (dq dk_House_check 7 rfl) ?_
  refine ww_geti C ko_Policy 0 (kc_House_1 _ ho_v0) (lt_ rfl) g_1_157 rfl rfl (dq dk_House_check 8 rfl) ?_
  refine ww_puti C ko_House 15 ho_v0 (lt_ rfl) g_2_170 rfl rfl rfl rfl (dq dk_House_check 9 rfl) h (fun σ4 h => ?_)
  refine ww_aload_n C 0 rfl rfl (dq dk_House_check 10 rfl) ?_
  refine ww_geti C ko_House 14 ho_v0 (lt_ rfl) g_2_169 rfl rfl (dq dk_House_check 11 rfl) ?_
  refine ww_if_ne C 49 (dq dk_House_check 12 rfl) (by decide) h (fun h => ?_) (fun h => ?_)
  · refine ww_aload_n C 0 rfl rfl (dq dk_House_check 23 rfl) ?_
    refine ww_getr C ko_House 0 ho_v0 (lt_ rfl) g_2_155 rfl rfl (dq dk_House_check 24 rfl) ?_
    refine ww_iconst C (dq dk_House_check 25 rfl) ic_0 ?_
    refine ww_puti C ko_Strip 2 (kc_House_0 _ ho_v0) (lt_ rfl) g_1_39 rfl rfl rfl rfl (dq dk_House_check 26 rfl) h (fun σ5 h => ?_)
    refine ww_aload_n C 0 rfl rfl (dq dk_House_check 27 rfl) ?_
    refine ww_geti C ko_House 14 ho_v0 (lt_ rfl) g_2_169 rfl rfl (dq dk_House_check 28 rfl) ?_
    exact ww_iret C hR (dq dk_House_check 29 rfl) h
  · refine ww_aload_n C 0 rfl rfl (dq dk_House_check 13 rfl) ?_
    refine ww_getr C ko_House 2 ho_v0 (lt_ rfl) g_2_157 rfl rfl (dq dk_House_check 14 rfl) ?_
    refine ww_aload_n C 0 rfl rfl (dq dk_House_check 15 rfl) ?_
    refine ww_getr C ko_House 0 ho_v0 (lt_ rfl) g_2_155 rfl rfl (dq dk_House_check 16 rfl) ?_
    refine ww_cVv (st := []) C (c_Strip_copyFrom (ch v0 2) (kc_House_2 _ ho_v0) (ch v0 0) (kc_House_0 _ ho_v0)) cw_Strip_copyFrom (kc_House_2 _ ho_v0) (lt_ rfl) rfl g_3_82 hRm ⟨⟨rfl, rfl⟩, le_ rfl, le_ rfl⟩ rfl rfl rfl (le_ rfl) (dq dk_House_check 17 rfl) h (fun σ6 h => ?_)
    refine ww_aload_n C 0 rfl rfl (dq dk_House_check 18 rfl) ?_
    refine ww_iconst C (dq dk_House_check 19 rfl) ic_0 ?_
    refine ww_putZ C ko_House 13 ho_v0 (lt_ rfl) g_2_168 rfl rfl rfl rfl (Or.inl rfl) (dq dk_House_check 20 rfl) h (fun σ7 h => ?_)
    refine ww_aload_n C 0 rfl rfl (dq dk_House_check 21 rfl) ?_
    refine ww_cVv (st := []) C (c_House_forgetRuns v0 ho_v0) cw_House_forgetRuns ho_v0 (lt_ rfl) rfl g_3_89 hRm ⟨⟨rfl, rfl⟩, le_ rfl, le_ rfl⟩ rfl rfl rfl (le_ rfl) (dq dk_House_check 22 rfl) h (fun σ8 h => ?_)
    refine ww_aload_n C 0 rfl rfl (dq dk_House_check 23 rfl) ?_
    refine ww_getr C ko_House 0 ho_v0 (lt_ rfl) g_2_155 rfl rfl (dq dk_House_check 24 rfl) ?_
    refine ww_iconst C (dq dk_House_check 25 rfl) ic_0 ?_
    refine ww_puti C ko_Strip 2 (kc_House_0 _ ho_v0) (lt_ rfl) g_1_39 rfl rfl rfl rfl (dq dk_House_check 26 rfl) h (fun σ9 h => ?_)
    refine ww_aload_n C 0 rfl rfl (dq dk_House_check 27 rfl) ?_
    refine ww_geti C ko_House 14 ho_v0 (lt_ rfl) g_2_169 rfl rfl (dq dk_House_check 28 rfl) ?_
    exact ww_iret C hR (dq dk_House_check 29 rfl) h
abbrev y_House_fault : MethodName := ⟨"BundleHouse", "fault", "(I)I"⟩
def dl_House_fault : List (Nat × Instr × Nat) := [(0, .iload_n 1, 1), (1, .ifCond .ne 8, 3), (4, .aload_n 0, 1), (5, .getfield 103, 3), (8, .ireturn, 1), (9, .iload_n 1, 1), (10, .iconst 1, 1), (11, .if_icmp .ne 10, 3), (14, .aload_n 0, 1), (15, .getfield 88, 3), (18, .goto 4, 3), (21, .iconst (-1), 1), (22, .ireturn, 1)]
set_option maxRecDepth 100000 in
theorem dk_House_fault : ∀ q ∈ dl_House_fault, decode prog_1_method_5_code q.1 = .ok q.2 := by decide +kernel
abbrev rm_House_fault : Room := { frames := 0, cells := 0, slots := 0, locals := 0 }
theorem cw_House_fault : CWV y_House_fault prog_1_method_5_code 2 (some .int) 1 := ⟨⟨g_3_96, g_1_1, by decide, by decide, by decide +kernel⟩, g_3_94, g_3_95⟩
set_option maxHeartbeats 4000000 in
set_option maxRecDepth 100000 in
theorem c_House_fault (v0 : Nat) (ho_v0 : kd v0 = 0) (v1 : Int32) : MI y_House_fault rm_House_fault prog_1_method_5_code 2 .int (fun a => [.ref (a v0), .int v1]) (House_fault v0 v1) := by
  refine mi_of (by decide) (fun _ => le_ rfl) ?_
  intro k res σ C hR hRm hnL h
  unfold House_fault at h
  show WW k 0 [(0, .ref (ad k v0)), (1, .int v1)] [] σ
  refine ww_iload_n C 1 rfl rfl (dq dk_House_fault 0 rfl) ?_
  refine ww_if_ne C 9 (dq dk_House_fault 1 rfl) (by decide) h (fun h => ?_) (fun h => ?_)
  · refine ww_iload_n C 1 rfl rfl (dq dk_House_fault 5 rfl) ?_
    refine ww_iconst C (dq dk_House_fault 6 rfl) ic_1 ?_
    refine ww_icmp_ne C 21 (dq dk_House_fault 7 rfl) (by decide) h (fun h => ?_) (fun h => ?_)
    · refine ww_iconst C (dq dk_House_fault 11 rfl) ic_m1 ?_
      exact ww_iret C hR (dq dk_House_fault 12 rfl) h
    · refine ww_aload_n C 0 rfl rfl (dq dk_House_fault 8 rfl) ?_
      refine ww_geti C ko_House 15 ho_v0 (lt_ rfl) g_2_170 rfl rfl (dq dk_House_fault 9 rfl) ?_
      refine ww_goto C 22 (dq dk_House_fault 10 rfl) (by decide) ?_
      exact ww_iret C hR (dq dk_House_fault 12 rfl) h
  · refine ww_aload_n C 0 rfl rfl (dq dk_House_fault 2 rfl) ?_
    refine ww_geti C ko_House 14 ho_v0 (lt_ rfl) g_2_169 rfl rfl (dq dk_House_fault 3 rfl) ?_
    exact ww_iret C hR (dq dk_House_fault 4 rfl) h
abbrev y_House_isMemory : MethodName := ⟨"BundleHouse", "isMemory", "(I)Z"⟩
def dl_House_isMemory : List (Nat × Instr × Nat) := [(0, .iload_n 0, 1), (1, .bipush 15, 2), (3, .iand, 1), (4, .istore_n 1, 1), (5, .iload_n 0, 1), (6, .iconst 4, 1), (7, .ishr, 1), (8, .bipush 15, 2), (10, .iand, 1), (11, .istore_n 2, 1), (12, .iload_n 0, 1), (13, .bipush 8, 2), (15, .ishr, 1), (16, .istore_n 3, 1), (17, .iload_n 3, 1), (18, .ifCond .lt 25, 3), (21, .iload_n 3, 1), (22, .iconst 3, 1), (23, .if_icmp .gt 20, 3), (26, .iload_n 1, 1), (27, .bipush 8, 2), (29, .if_icmp .gt 14, 3), (32, .iload_n 2, 1), (33, .bipush 8, 2), (35, .if_icmp .gt 8, 3), (38, .iload_n 2, 1), (39, .iconst 4, 1), (40, .if_icmp .ne 5, 3), (43, .iconst 0, 1), (44, .ireturn, 1), (45, .iload_n 2, 1), (46, .bipush 8, 2), (48, .if_icmp .ne 7, 3), (51, .iload_n 3, 1), (52, .ifCond .ne 7, 3), (55, .iconst 1, 1), (56, .goto 4, 3), (59, .iconst 0, 1), (60, .ireturn, 1)]
set_option maxRecDepth 100000 in
theorem dk_House_isMemory : ∀ q ∈ dl_House_isMemory, decode prog_1_method_28_code q.1 = .ok q.2 := by decide +kernel
abbrev rm_House_isMemory : Room := { frames := 0, cells := 0, slots := 0, locals := 0 }
theorem cw_House_isMemory : CWS y_House_isMemory prog_1_method_28_code 4 (some .boolean) 1 := ⟨⟨g_3_118, g_1_1, by decide, by decide, by decide +kernel⟩, g_3_117⟩
set_option maxHeartbeats 4000000 in
set_option maxRecDepth 100000 in
theorem c_House_isMemory (v0 : Int32) : MI y_House_isMemory rm_House_isMemory prog_1_method_28_code 4 .boolean (fun a => [.int v0]) (House_isMemory v0) := by
  refine mi_of (by decide) (fun _ => le_ rfl) ?_
  intro k res σ C hR hRm hnL h
  unfold House_isMemory at h
  show WW k 0 [(0, .int v0)] [] σ
  refine ww_iload_n C 0 rfl rfl (dq dk_House_isMemory 0 rfl) ?_
  refine ww_bipush C (dq dk_House_isMemory 1 rfl) bp_15 ?_
  refine ww_iand C (dq dk_House_isMemory 2 rfl) ?_
  refine ww_nmi h (fun x1 h => ?_)
  refine ww_istore_n C [(1, .int x1), (0, .int v0)] rfl hnL (lt_ rfl) rfl (dq dk_House_isMemory 3 rfl) ?_
  refine ww_iload_n C 1 rfl rfl (dq dk_House_isMemory 4 rfl) ?_
  refine ww_iconst C (dq dk_House_isMemory 5 rfl) ic_4 ?_
  refine ww_ishr C (dq dk_House_isMemory 6 rfl) ?_
  refine ww_bipush C (dq dk_House_isMemory 7 rfl) bp_15 ?_
  refine ww_iand C (dq dk_House_isMemory 8 rfl) ?_
  refine ww_nmi h (fun x2 h => ?_)
  refine ww_istore_n C [(2, .int x2), (1, .int x1), (0, .int v0)] rfl hnL (lt_ rfl) rfl (dq dk_House_isMemory 9 rfl) ?_
  refine ww_iload_n C 2 rfl rfl (dq dk_House_isMemory 10 rfl) ?_
  refine ww_bipush C (dq dk_House_isMemory 11 rfl) bp_8 ?_
  refine ww_ishr C (dq dk_House_isMemory 12 rfl) ?_
  refine ww_nmi h (fun x3 h => ?_)
  refine ww_istore_n C [(3, .int x3), (2, .int x2), (1, .int x1), (0, .int v0)] rfl hnL (lt_ rfl) rfl (dq dk_House_isMemory 13 rfl) ?_
  refine ww_iload_n C 0 rfl rfl (dq dk_House_isMemory 14 rfl) ?_
  refine ww_if_lt C 43 (dq dk_House_isMemory 15 rfl) (by decide) h (fun h => ?_) (fun h => ?_)
  · refine ww_iconst C (dq dk_House_isMemory 28 rfl) ic_0 ?_
    exact ww_zretL C hR (dq dk_House_isMemory 29 rfl) (Or.inl rfl) h
  · refine ww_iload_n C 0 rfl rfl (dq dk_House_isMemory 16 rfl) ?_
    refine ww_iconst C (dq dk_House_isMemory 17 rfl) ic_3 ?_
    refine ww_icmp_gt C 43 (dq dk_House_isMemory 18 rfl) (by decide) h (fun h => ?_) (fun h => ?_)
    · refine ww_iconst C (dq dk_House_isMemory 28 rfl) ic_0 ?_
      exact ww_zretL C hR (dq dk_House_isMemory 29 rfl) (Or.inl rfl) h
    · refine ww_iload_n C 2 rfl rfl (dq dk_House_isMemory 19 rfl) ?_
      refine ww_bipush C (dq dk_House_isMemory 20 rfl) bp_8 ?_
      refine ww_icmp_gt C 43 (dq dk_House_isMemory 21 rfl) (by decide) h (fun h => ?_) (fun h => ?_)
      · refine ww_iconst C (dq dk_House_isMemory 28 rfl) ic_0 ?_
        exact ww_zretL C hR (dq dk_House_isMemory 29 rfl) (Or.inl rfl) h
      · refine ww_iload_n C 1 rfl rfl (dq dk_House_isMemory 22 rfl) ?_
        refine ww_bipush C (dq dk_House_isMemory 23 rfl) bp_8 ?_
        refine ww_icmp_gt C 43 (dq dk_House_isMemory 24 rfl) (by decide) h (fun h => ?_) (fun h => ?_)
        · refine ww_iconst C (dq dk_House_isMemory 28 rfl) ic_0 ?_
          exact ww_zretL C hR (dq dk_House_isMemory 29 rfl) (Or.inl rfl) h
        · refine ww_iload_n C 1 rfl rfl (dq dk_House_isMemory 25 rfl) ?_
          refine ww_iconst C (dq dk_House_isMemory 26 rfl) ic_4 ?_
          refine ww_icmp_ne C 45 (dq dk_House_isMemory 27 rfl) (by decide) h (fun h => ?_) (fun h => ?_)
          · refine ww_iload_n C 1 rfl rfl (dq dk_House_isMemory 30 rfl) ?_
            refine ww_bipush C (dq dk_House_isMemory 31 rfl) bp_8 ?_
            refine ww_icmp_ne C 55 (dq dk_House_isMemory 32 rfl) (by decide) h (fun h => ?_) (fun h => ?_)
            · refine ww_iconst C (dq dk_House_isMemory 35 rfl) ic_1 ?_
              refine ww_goto C 60 (dq dk_House_isMemory 36 rfl) (by decide) ?_
              exact ww_zretL C hR (dq dk_House_isMemory 38 rfl) (Or.inr rfl) h
            · refine ww_iload_n C 0 rfl rfl (dq dk_House_isMemory 33 rfl) ?_
              refine ww_if_ne C 59 (dq dk_House_isMemory 34 rfl) (by decide) h (fun h => ?_) (fun h => ?_)
              · refine ww_iconst C (dq dk_House_isMemory 37 rfl) ic_0 ?_
                exact ww_zretL C hR (dq dk_House_isMemory 38 rfl) (Or.inl rfl) h
              · refine ww_iconst C (dq dk_House_isMemory 35 rfl) ic_1 ?_
                refine ww_goto C 60 (dq dk_House_isMemory 36 rfl) (by decide) ?_
                exact ww_zretL C hR (dq dk_House_isMemory 38 rfl) (Or.inr rfl) h
          · refine ww_iconst C (dq dk_House_isMemory 28 rfl) ic_0 ?_
            exact ww_zretL C hR (dq dk_House_isMemory 29 rfl) (Or.inl rfl) h
abbrev y_House_isPlain : MethodName := ⟨"BundleHouse", "isPlain", "(IIIII)Z"⟩
def dl_House_isPlain : List (Nat × Instr × Nat) := [(0, .iload_n 0, 1), (1, .ifCond .lt 33, 3), (4, .iload_n 0, 1), (5, .getstatic 239, 3), (8, .arraylength, 1), (9, .if_icmp .ge 25, 3), (12, .iload_n 1, 1), (13, .ifCond .lt 21, 3), (16, .iload_n 1, 1), (17, .bipush 8, 2), (19, .if_icmp .gt 15, 3), (22, .getstatic 239, 3), (25, .iload_n 0, 1), (26, .iaload, 1), (27, .iload_n 1, 1), (28, .ishr, 1), (29, .iconst 1, 1), (30, .iand, 1), (31, .ifCond .ne 5, 3), (34, .iconst 0, 1), (35, .ireturn, 1), (36, .iload_n 1, 1), (37, .iconst 1, 1), (38, .if_icmp .lt 17, 3), (41, .iload_n 1, 1), (42, .iconst 5, 1), (43, .if_icmp .gt 12, 3), (46, .iload_n 2, 1), (47, .invokestatic 185, 3), (50, .ifCond .ne 5, 3), (53, .iconst 0, 1), (54, .ireturn, 1), (55, .iload_n 1, 1), (56, .iconst 2, 1), (57, .if_icmp .ne 12, 3), (60, .iload_n 3, 1), (61, .invokestatic 185, 3), (64, .ifCond .ne 5, 3), (67, .iconst 0, 1), (68, .ireturn, 1), (69, .iload_n 1, 1), (70, .invokestatic 243, 3), (73, .ifCond .eq 12, 3), (76, .iload_n 3, 1), (77, .invokestatic 246, 3), (80, .ifCond .ne 5, 3), (83, .iconst 0, 1), (84, .ireturn, 1), (85, .iload_n 0, 1), (86, .invokestatic 249, 3), (89, .ifCond .eq 16, 3), (92, .iload 4, 2), (94, .ifCond .lt 15, 3), (97, .iload 4, 2), (99, .sipush 255, 3), (102, .if_icmp .gt 7, 3), (105, .iconst 1, 1), (106, .goto 4, 3), (109, .iconst 0, 1), (110, .ireturn, 1)]
set_option maxRecDepth 100000 in
theorem dk_House_isPlain : ∀ q ∈ dl_House_isPlain, decode prog_1_method_21_code q.1 = .ok q.2 := by decide +kernel
abbrev rm_House_isPlain : Room := { frames := 1, cells := 0, slots := 0, locals := 23 }
theorem cw_House_isPlain : CWS y_House_isPlain prog_1_method_21_code 5 (some .boolean) 5 := ⟨⟨g_3_107, g_1_1, by decide, by decide, by decide +kernel⟩, g_3_106⟩
set_option maxHeartbeats 4000000 in
set_option maxRecDepth 100000 in
theorem t_House_isPlain_B85 {k : Cfg} {res : Int32 × St} (C : Cx k prog_1_method_21_code "BundleHouse") (hR : RI k .boolean res) (hRm : k.2.2.2.1 = rm_House_isPlain) (hnL : k.2.2.2.2.2.2.2.2.2.2.2.1 = 5) (v0 : Int32) (v4 : Int32) (σ : St) (h : House_isPlain_B85 v0 v4 σ = some res) : WW k 85 [(0, .int v0), (4, .int v4)] [] σ := by
  unfold House_isPlain_B85 at h
  refine ww_iload_n C 0 rfl rfl (dq dk_House_isPlain 48 rfl) ?_
  refine ww_cSi (st := []) C (c_House_isShift v0) cw_House_isShift g_3_119 hRm ⟨⟨rfl, rfl⟩, le_ rfl, le_ rfl⟩ rfl rfl rfl (le_ rfl) (dq dk_House_isPlain 49 rfl) h (fun x2 σ1 h => ?_)
  refine ww_if_eq C 105 (dq dk_House_isPlain 50 rfl) (by decide) h (fun h => ?_) (fun h => ?_)
  · refine ww_iconst C (dq dk_House_isPlain 56 rfl) ic_1 ?_
    refine ww_goto C 110 (dq dk_House_isPlain 57 rfl) (by decide) ?_
    exact ww_zretL C hR (dq dk_House_isPlain 59 rfl) (Or.inr rfl) h
  · refine ww_iload C 1 rfl (dq dk_House_isPlain 51 rfl) ?_
    refine ww_if_lt C 109 (dq dk_House_isPlain 52 rfl) (by decide) h (fun h => ?_) (fun h => ?_)
    · refine ww_iconst C (dq dk_House_isPlain 58 rfl) ic_0 ?_
      exact ww_zretL C hR (dq dk_House_isPlain 59 rfl) (Or.inl rfl) h
    · refine ww_iload C 1 rfl (dq dk_House_isPlain 53 rfl) ?_
      refine ww_sipush C (dq dk_House_isPlain 54 rfl) sp_255 ?_
      refine ww_icmp_gt C 109 (dq dk_House_isPlain 55 rfl) (by decide) h (fun h => ?_) (fun h => ?_)
      · refine ww_iconst C (dq dk_House_isPlain 58 rfl) ic_0 ?_
        exact ww_zretL C hR (dq dk_House_isPlain 59 rfl) (Or.inl rfl) h
      · refine ww_iconst C (dq dk_House_isPlain 56 rfl) ic_1 ?_
        refine ww_goto C 110 (dq dk_House_isPlain 57 rfl) (by decide) ?_
        exact ww_zretL C hR (dq dk_House_isPlain 59 rfl) (Or.inr rfl) h
set_option maxHeartbeats 4000000 in
set_option maxRecDepth 100000 in
theorem t_House_isPlain_B69 {k : Cfg} {res : Int32 × St} (C : Cx k prog_1_method_21_code "BundleHouse") (hR : RI k .boolean res) (hRm : k.2.2.2.1 = rm_House_isPlain) (hnL : k.2.2.2.2.2.2.2.2.2.2.2.1 = 5) (v0 : Int32) (v1 : Int32) (v3 : Int32) (v4 : Int32) (σ : St) (h : House_isPlain_B69 v0 v1 v3 v4 σ = some res) : WW k 69 [(0, .int v0), (1, .int v1), (3, .int v3), (4, .int v4)] [] σ := by
  unfold House_isPlain_B69 at h
  refine ww_iload_n C 1 rfl rfl (dq dk_House_isPlain 40 rfl) ?_
  refine ww_cSi (st := []) C (c_House_isMemoryForm v1) cw_House_isMemoryForm g_3_113 hRm ⟨⟨rfl, rfl⟩, le_ rfl, le_ rfl⟩ rfl rfl rfl (le_ rfl) (dq dk_House_isPlain 41 rfl) h (fun x2 σ1 h => ?_)
  refine ww_if_eq C 85 (dq dk_House_isPlain 42 rfl) (by decide) h (fun h => ?_) (fun h => ?_)
  · exact ww_lv [0, 3] rfl (t_House_isPlain_B85 C hR hRm hnL v0 v4 σ1 h)
  · refine ww_iload_n C 2 rfl rfl (dq dk_House_isPlain 43 rfl) ?_
    refine ww_cSi (st := []) C (c_House_isMemory v3) cw_House_isMemory g_3_116 hRm ⟨⟨rfl, rfl⟩, le_ rfl, le_ rfl⟩ rfl rfl rfl (le_ rfl) (dq dk_House_isPlain 44 rfl) h (fun x4 σ3 h => ?_)
    refine ww_if_ne C 85 (dq dk_House_isPlain 45 rfl) (by decide) h (fun h => ?_) (fun h => ?_)
    · exact ww_lv [0, 3] rfl (t_House_isPlain_B85 C hR hRm hnL v0 v4 σ3 h)
    · refine ww_iconst C (dq dk_House_isPlain 46 rfl) ic_0 ?_
      exact ww_zretL C hR (dq dk_House_isPlain 47 rfl) (Or.inl rfl) h
set_option maxHeartbeats 4000000 in
set_option maxRecDepth 100000 in
theorem t_House_isPlain_B55 {k : Cfg} {res : Int32 × St} (C : Cx k prog_1_method_21_code "BundleHouse") (hR : RI k .boolean res) (hRm : k.2.2.2.1 = rm_House_isPlain) (hnL : k.2.2.2.2.2.2.2.2.2.2.2.1 = 5) (v0 : Int32) (v1 : Int32) (v3 : Int32) (v4 : Int32) (σ : St) (h : House_isPlain_B55 v0 v1 v3 v4 σ = some res) : WW k 55 [(0, .int v0), (1, .int v1), (3, .int v3), (4, .int v4)] [] σ := by
  unfold House_isPlain_B55 at h
  refine ww_iload_n C 1 rfl rfl (dq dk_House_isPlain 32 rfl) ?_
  refine ww_iconst C (dq dk_House_isPlain 33 rfl) ic_2 ?_
  refine ww_icmp_ne C 69 (dq dk_House_isPlain 34 rfl) (by decide) h (fun h => ?_) (fun h => ?_)
  · exact ww_lv [0, 1, 2, 3] rfl (t_House_isPlain_B69 C hR hRm hnL v0 v1 v3 v4 σ h)
  · refine ww_iload_n C 2 rfl rfl (dq dk_House_isPlain 35 rfl) ?_
    refine ww_cSi (st := []) C (c_House_isRegister v3) cw_House_isRegister g_3_110 hRm ⟨⟨rfl, rfl⟩, le_ rfl, le_ rfl⟩ rfl rfl rfl (le_ rfl) (dq dk_House_isPlain 36 rfl) h (fun x2 σ1 h => ?_)
    refine ww_if_ne C 69 (dq dk_House_isPlain 37 rfl) (by decide) h (fun h => ?_) (fun h => ?_)
    · exact ww_lv [0, 1, 2, 3] rfl (t_House_isPlain_B69 C hR hRm hnL v0 v1 v3 v4 σ1 h)
    · refine ww_iconst C (dq dk_House_isPlain 38 rfl) ic_0 ?_
      exact ww_zretL C hR (dq dk_House_isPlain 39 rfl) (Or.inl rfl) h
set_option maxHeartbeats 4000000 in
set_option maxRecDepth 100000 in
theorem c_House_isPlain (v0 : Int32) (v1 : Int32) (v2 : Int32) (v3 : Int32) (v4 : Int32) : MI y_House_isPlain rm_House_isPlain prog_1_method_21_code 5 .boolean (fun a => [.int v0, .int v1, .int v2, .int v3, .int v4]) (House_isPlain v0 v1 v2 v3 v4) := by
  refine mi_of (by decide) (fun _ => le_ rfl) ?_
  intro k res σ C hR hRm hnL h
  unfold House_isPlain at h
  show WW k 0 [(0, .int v0), (1, .int v1), (2, .int v2), (3, .int v3), (4, .int v4)] [] σ
  refine ww_iload_n C 0 rfl rfl (dq dk_House_isPlain 0 rfl) ?_
  refine ww_if_lt C 34 (dq dk_House_isPlain 1 rfl) (by decide) h (fun h => ?_) (fun h => ?_)
  · refine ww_iconst C (dq dk_House_isPlain 19 rfl) ic_0 ?_
    exact ww_zretL C hR (dq dk_House_isPlain 20 rfl) (Or.inl rfl) h
  · refine ww_iload_n C 0 rfl rfl (dq dk_House_isPlain 2 rfl) ?_
    refine ww_gets C g_3_108 (dq dk_House_isPlain 3 rfl) ?_
    refine ww_slen C (dq dk_House_isPlain 4 rfl) ?_
    refine ww_icmp_ge C 34 (dq dk_House_isPlain 5 rfl) (by decide) h (fun h => ?_) (fun h => ?_)
    · refine ww_iconst C (dq dk_House_isPlain 19 rfl) ic_0 ?_
      exact ww_zretL C hR (dq dk_House_isPlain 20 rfl) (Or.inl rfl) h
    · refine ww_iload_n C 1 rfl rfl (dq dk_House_isPlain 6 rfl) ?_
      refine ww_if_lt C 34 (dq dk_House_isPlain 7 rfl) (by decide) h (fun h => ?_) (fun h => ?_)
      · refine ww_iconst C (dq dk_House_isPlain 19 rfl) ic_0 ?_
        exact ww_zretL C hR (dq dk_House_isPlain 20 rfl) (Or.inl rfl) h
      · refine ww_iload_n C 1 rfl rfl (dq dk_House_isPlain 8 rfl) ?_
        refine ww_bipush C (dq dk_House_isPlain 9 rfl) bp_8 ?_
        refine ww_icmp_gt C 34 (dq dk_House_isPlain 10 rfl) (by decide) h (fun h => ?_) (fun h => ?_)
        · refine ww_iconst C (dq dk_House_isPlain 19 rfl) ic_0 ?_
          exact ww_zretL C hR (dq dk_House_isPlain 20 rfl) (Or.inl rfl) h
        · refine ww_gets C g_3_108 (dq dk_House_isPlain 11 rfl) ?_
          refine ww_iload_n C 0 rfl rfl (dq dk_House_isPlain 12 rfl) ?_
          refine ww_sld C (dq dk_House_isPlain 13 rfl) h (fun x1 h => ?_)
          refine ww_iload_n C 1 rfl rfl (dq dk_House_isPlain 14 rfl) ?_
          refine ww_ishr C (dq dk_House_isPlain 15 rfl) ?_
          refine ww_iconst C (dq dk_House_isPlain 16 rfl) ic_1 ?_
          refine ww_iand C (dq dk_House_isPlain 17 rfl) ?_
          refine ww_if_ne C 36 (dq dk_House_isPlain 18 rfl) (by decide) h (fun h => ?_) (fun h => ?_)
          · refine ww_iload_n C 1 rfl rfl (dq dk_House_isPlain 21 rfl) ?_
            refine ww_iconst C (dq dk_House_isPlain 22 rfl) ic_1 ?_
            refine ww_icmp_lt C 55 (dq dk_House_isPlain 23 rfl) (by decide) h (fun h => ?_) (fun h => ?_)
            · exact ww_lv [0, 1, 3, 4] rfl (t_House_isPlain_B55 C hR hRm hnL v0 v1 v3 v4 σ h)
            · refine ww_iload_n C 1 rfl rfl (dq dk_House_isPlain 24 rfl) ?_
              refine ww_iconst C (dq dk_House_isPlain 25 rfl) ic_5 ?_
              refine ww_icmp_gt C 55 (dq dk_House_isPlain 26 rfl) (by decide) h (fun h => ?_) (fun h => ?_)
              · exact ww_lv [0, 1, 3, 4] rfl (t_House_isPlain_B55 C hR hRm hnL v0 v1 v3 v4 σ h)
              · refine ww_iload_n C 2 rfl rfl (dq dk_House_isPlain 27 rfl) ?_
                refine ww_cSi (st := []) C (c_House_isRegister v2) cw_House_isRegister g_3_110 hRm ⟨⟨rfl, rfl⟩, le_ rfl, le_ rfl⟩ rfl rfl rfl (le_ rfl) (dq dk_House_isPlain 28 rfl) h (fun x3 σ2 h => ?_)
                refine ww_if_ne C 55 (dq dk_House_isPlain 29 rfl) (by decide) h (fun h => ?_) (fun h => ?_)
                · exact ww_lv [0, 1, 3, 4] rfl (t_House_isPlain_B55 C hR hRm hnL v0 v1 v3 v4 σ2 h)
                · refine ww_iconst C (dq dk_House_isPlain 30 rfl) ic_0 ?_
                  exact ww_zretL C hR (dq dk_House_isPlain 31 rfl) (Or.inl rfl) h
          · refine ww_iconst C (dq dk_House_isPlain 19 rfl) ic_0 ?_
            exact ww_zretL C hR (dq dk_House_isPlain 20 rfl) (Or.inl rfl) h
abbrev y_House_plain : MethodName := ⟨"BundleHouse", "plain", "(IIIIII)I"⟩
def dl_House_plain : List (Nat × Instr × Nat) := [(0, .aload_n 0, 1), (1, .getfield 41, 3), (4, .invokevirtual 119, 3), (7, .ifCond .ne 16, 3), (10, .iload_n 1, 1), (11, .iload_n 2, 1), (12, .iload_n 3, 1), (13, .iload 4, 2), (15, .iload 6, 2), (17, .invokestatic 123, 3), (20, .ifCond .ne 5, 3), (23, .iconst (-1), 1), (24, .ireturn, 1), (25, .aload_n 0, 1), (26, .getfield 41, 3), (29, .iload_n 1, 1), (30, .iload_n 2, 1), (31, .iload_n 3, 1), (32, .iload 4, 2), (34, .iload 5, 2), (36, .iload 6, 2), (38, .invokevirtual 127, 3), (41, .aload_n 0, 1), (42, .getfield 41, 3), (45, .getfield 131, 3), (48, .ireturn, 1)]
set_option maxRecDepth 100000 in
theorem dk_House_plain : ∀ q ∈ dl_House_plain, decode prog_1_method_6_code q.1 = .ok q.2 := by decide +kernel
abbrev rm_House_plain : Room := { frames := 2, cells := 0, slots := 0, locals := 47 }
theorem cw_House_plain : CWV y_House_plain prog_1_method_6_code 7 (some .int) 6 := ⟨⟨g_3_100, g_1_1, by decide, by decide, by decide +kernel⟩, g_3_98, g_3_99⟩
set_option maxHeartbeats 4000000 in
set_option maxRecDepth 100000 in
theorem c_House_plain (v0 : Nat) (ho_v0 : kd v0 = 0) (v1 : Int32) (v2 : Int32) (v3 : Int32) (v4 : Int32) (v5 : Int32) (v6 : Int32) : MI y_House_plain rm_House_plain prog_1_method_6_code 7 .int (fun a => [.ref (a v0), .int v1, .int v2, .int v3, .int v4, .int v5, .int v6]) (House_plain v0 v1 v2 v3 v4 v5 v6) := by
  refine mi_of (by decide) (fun _ => le_ rfl) ?_
  intro k res σ C hR hRm hnL h
  unfold House_plain at h
  show WW k 0 [(0, .ref (ad k v0)), (1, .int v1), (2, .int v2), (3, .int v3), (4, .int v4), (5, .int v5), (6, .int v6)] [] σ
  refine ww_aload_n C 0 rfl rfl (dq dk_House_plain 0 rfl) ?_
  refine ww_getr C ko_House 5 ho_v0 (lt_ rfl) g_2_160 rfl rfl (dq dk_House_plain 1 rfl) ?_
  refine ww_cVi (st := []) C (c_Program_isFull (ch v0 5) (kc_House_5 _ ho_v0)) cw_Program_isFull (kc_House_5 _ ho_v0) (lt_ rfl) rfl g_3_101 hRm ⟨⟨rfl, rfl⟩, le_ rfl, le_ rfl⟩ rfl rfl rfl (le_ rfl) (dq dk_House_plain 2 rfl) h (fun x2 σ1 h => ?_)
  refine ww_if_ne C 23 (dq dk_House_plain 3 rfl) (by decide) h (fun h => ?_) (fun h => ?_)
  · refine ww_iconst C (dq dk_House_plain 11 rfl) ic_m1 ?_
    exact ww_iret C hR (dq dk_House_plain 12 rfl) h
  · refine ww_iload_n C 1 rfl rfl (dq dk_House_plain 4 rfl) ?_
    refine ww_iload_n C 2 rfl rfl (dq dk_House_plain 5 rfl) ?_
    refine ww_iload_n C 3 rfl rfl (dq dk_House_plain 6 rfl) ?_
    refine ww_iload C 4 rfl (dq dk_House_plain 7 rfl) ?_
    refine ww_iload C 6 rfl (dq dk_House_plain 8 rfl) ?_
    refine ww_cSi (st := []) C (c_House_isPlain v1 v2 v3 v4 v6) cw_House_isPlain g_3_105 hRm ⟨⟨rfl, rfl⟩, le_ rfl, le_ rfl⟩ rfl rfl rfl (le_ rfl) (dq dk_House_plain 9 rfl) h (fun x4 σ3 h => ?_)
    refine ww_if_ne C 25 (dq dk_House_plain 10 rfl) (by decide) h (fun h => ?_) (fun h => ?_)
    · refine ww_aload_n C 0 rfl rfl (dq dk_House_plain 13 rfl) ?_
      refine ww_getr C ko_House 5 ho_v0 (lt_ rfl) g_2_160 rfl rfl (dq dk_House_plain 14 rfl) ?_
      refine ww_iload_n C 1 rfl rfl (dq dk_House_plain 15 rfl) ?_
      refine ww_iload_n C 2 rfl rfl (dq dk_House_plain 16 rfl) ?_
      refine ww_iload_n C 3 rfl rfl (dq dk_House_plain 17 rfl) ?_
      refine ww_iload C 4 rfl (dq dk_House_plain 18 rfl) ?_
      refine ww_iload C 5 rfl (dq dk_House_plain 19 rfl) ?_
      refine ww_iload C 6 rfl (dq dk_House_plain 20 rfl) ?_
      refine ww_cVv (st := []) C (c_Program_addPlain (ch v0 5) (kc_House_5 _ ho_v0) v1 v2 v3 v4 v5 v6) cw_Program_addPlain (kc_House_5 _ ho_v0) (lt_ rfl) rfl g_3_122 hRm ⟨⟨rfl, rfl⟩, le_ rfl, le_ rfl⟩ rfl rfl rfl (le_ rfl) (dq dk_House_plain 21 rfl) h (fun σ5 h => ?_)
      refine ww_aload_n C 0 rfl rfl (dq dk_House_plain 22 rfl) ?_
      refine ww_getr C ko_House 5 ho_v0 (lt_ rfl) g_2_160 rfl rfl (dq dk_House_plain 23 rfl) ?_
      refine ww_geti C ko_Program 4 (kc_House_5 _ ho_v0) (lt_ rfl) g_1_188 rfl rfl (dq dk_House_plain 24 rfl) ?_
      exact ww_iret C hR (dq dk_House_plain 25 rfl) h
    · refine ww_iconst C (dq dk_House_plain 11 rfl) ic_m1 ?_
      exact ww_iret C hR (dq dk_House_plain 12 rfl) h
abbrev y_House_isFlow : MethodName := ⟨"BundleHouse", "isFlow", "(III)Z"⟩
def dl_House_isFlow : List (Nat × Instr × Nat) := [(0, .iload_n 0, 1), (1, .tableswitch 153 0 8 #[51, 73, 78, 73, 98, 113, 113, 131, 133], 51), (52, .iload_n 1, 1), (53, .invokestatic 252, 3), (56, .ifCond .eq 16, 3), (59, .iload_n 2, 1), (60, .ifCond .eq 8, 3), (63, .iload_n 2, 1), (64, .iconst 1, 1), (65, .if_icmp .ne 7, 3), (68, .iconst 1, 1), (69, .goto 4, 3), (72, .iconst 0, 1), (73, .ireturn, 1), (74, .iload_n 1, 1), (75, .invokestatic 252, 3), (78, .ireturn, 1), (79, .iload_n 1, 1), (80, .invokestatic 252, 3), (83, .ifCond .eq 14, 3), (86, .iload_n 2, 1), (87, .invokestatic 255, 3), (90, .ifCond .eq 7, 3), (93, .iconst 1, 1), (94, .goto 4, 3), (97, .iconst 0, 1), (98, .ireturn, 1), (99, .iload_n 1, 1), (100, .ifCond .lt 12, 3), (103, .iload_n 1, 1), (104, .iconst 3, 1), (105, .if_icmp .gt 7, 3), (108, .iconst 1, 1), (109, .goto 4, 3), (112, .iconst 0, 1), (113, .ireturn, 1), (114, .iload_n 1, 1), (115, .invokestatic 185, 3), (118, .ifCond .eq 12, 3), (121, .iload_n 1, 1), (122, .iconst 4, 1), (123, .if_icmp .eq 7, 3), (126, .iconst 1, 1), (127, .goto 4, 3), (130, .iconst 0, 1), (131, .ireturn, 1), (132, .iconst 1, 1), (133, .ireturn, 1), (134, .iload_n 1, 1), (135, .invokestatic 252, 3), (138, .ifCond .eq 14, 3), (141, .iload_n 2, 1), (142, .invokestatic 185, 3), (145, .ifCond .eq 7, 3), (148, .iconst 1, 1), (149, .goto 4, 3), (152, .iconst 0, 1), (153, .ireturn, 1), (154, .iconst 0, 1), (155, .ireturn, 1)]
set_option maxRecDepth 100000 in
theorem dk_House_isFlow : ∀ q ∈ dl_House_isFlow, decode prog_1_method_22_code q.1 = .ok q.2 := by decide +kernel
abbrev rm_House_isFlow : Room := { frames := 1, cells := 0, slots := 0, locals := 20 }
theorem cw_House_isFlow : CWS y_House_isFlow prog_1_method_22_code 3 (some .boolean) 3 := ⟨⟨g_3_133, g_1_1, by decide, by decide, by decide +kernel⟩, g_3_132⟩
set_option maxHeartbeats 4000000 in
set_option maxRecDepth 100000 in
theorem t_House_isFlow_B114 {k : Cfg} {res : Int32 × St} (C : Cx k prog_1_method_22_code "BundleHouse") (hR : RI k .boolean res) (hRm : k.2.2.2.1 = rm_House_isFlow) (hnL : k.2.2.2.2.2.2.2.2.2.2.2.1 = 3) (v1 : Int32) (σ : St) (h : House_isFlow_B114 v1 σ = some res) : WW k 114 [(1, .int v1)] [] σ := by
  unfold House_isFlow_B114 at h
  refine ww_iload_n C 0 rfl rfl (dq dk_House_isFlow 36 rfl) ?_
  refine ww_cSi (st := []) C (c_House_isRegister v1) cw_House_isRegister g_3_110 hRm ⟨⟨rfl, rfl⟩, le_ rfl, le_ rfl⟩ rfl rfl rfl (le_ rfl) (dq dk_House_isFlow 37 rfl) h (fun x2 σ1 h => ?_)
  refine ww_if_eq C 130 (dq dk_House_isFlow 38 rfl) (by decide) h (fun h => ?_) (fun h => ?_)
  · refine ww_iconst C (dq dk_House_isFlow 44 rfl) ic_0 ?_
    exact ww_zretL C hR (dq dk_House_isFlow 45 rfl) (Or.inl rfl) h
  · refine ww_iload_n C 0 rfl rfl (dq dk_House_isFlow 39 rfl) ?_
    refine ww_iconst C (dq dk_House_isFlow 40 rfl) ic_4 ?_
    refine ww_icmp_eq C 130 (dq dk_House_isFlow 41 rfl) (by decide) h (fun h => ?_) (fun h => ?_)
    · refine ww_iconst C (dq dk_House_isFlow 44 rfl) ic_0 ?_
      exact ww_zretL C hR (dq dk_House_isFlow 45 rfl) (Or.inl rfl) h
    · refine ww_iconst C (dq dk_House_isFlow 42 rfl) ic_1 ?_
      refine ww_goto C 131 (dq dk_House_isFlow 43 rfl) (by decide) ?_
      exact ww_zretL C hR (dq dk_House_isFlow 45 rfl) (Or.inr rfl) h
set_option maxHeartbeats 4000000 in
set_option maxRecDepth 100000 in
theorem c_House_isFlow (v0 : Int32) (v1 : Int32) (v2 : Int32) : MI y_House_isFlow rm_House_isFlow prog_1_method_22_code 3 .boolean (fun a => [.int v0, .int v1, .int v2]) (House_isFlow v0 v1 v2) := by
  refine mi_of (by decide) (fun _ => le_ rfl) ?_
  intro k res σ C hR hRm hnL h
  unfold House_isFlow at h
  show WW k 0 [(0, .int v0), (1, .int v1), (2, .int v2)] [] σ
  refine ww_iload_n C 0 rfl rfl (dq dk_House_isFlow 0 rfl) ?_
  by_cases e0_0 : v0 = 0
  · rw [if_pos e0_0] at h
    refine ww_tabIn C 52 (dq dk_House_isFlow 1 rfl) (by rw [e0_0]; decide) (by rw [e0_0]; decide) (by rw [e0_0]; rfl) (by decide) ?_
    refine ww_iload_n C 1 rfl rfl (dq dk_House_isFlow 2 rfl) ?_
    refine ww_cSi (st := []) C (c_House_isLabel v1) cw_House_isLabel g_3_134 hRm ⟨⟨rfl, rfl⟩, le_ rfl, le_ rfl⟩ rfl rfl rfl (le_ rfl) (dq dk_House_isFlow 3 rfl) h (fun x2 σ1 h => ?_)
    refine ww_if_eq C 72 (dq dk_House_isFlow 4 rfl) (by decide) h (fun h => ?_) (fun h => ?_)
    · refine ww_iconst C (dq dk_House_isFlow 12 rfl) ic_0 ?_
      exact ww_zretL C hR (dq dk_House_isFlow 13 rfl) (Or.inl rfl) h
    · refine ww_iload_n C 2 rfl rfl (dq dk_House_isFlow 5 rfl) ?_
      refine ww_if_eq C 68 (dq dk_House_isFlow 6 rfl) (by decide) h (fun h => ?_) (fun h => ?_)
      · refine ww_iconst C (dq dk_House_isFlow 10 rfl) ic_1 ?_
        refine ww_goto C 73 (dq dk_House_isFlow 11 rfl) (by decide) ?_
        exact ww_zretL C hR (dq dk_House_isFlow 13 rfl) (Or.inr rfl) h
      · refine ww_iload_n C 2 rfl rfl (dq dk_House_isFlow 7 rfl) ?_
        refine ww_iconst C (dq dk_House_isFlow 8 rfl) ic_1 ?_
        refine ww_icmp_ne C 72 (dq dk_House_isFlow 9 rfl) (by decide) h (fun h => ?_) (fun h => ?_)
        · refine ww_iconst C (dq dk_House_isFlow 12 rfl) ic_0 ?_
          exact ww_zretL C hR (dq dk_House_isFlow 13 rfl) (Or.inl rfl) h
        · refine ww_iconst C (dq dk_House_isFlow 10 rfl) ic_1 ?_
          refine ww_goto C 73 (dq dk_House_isFlow 11 rfl) (by decide) ?_
          exact ww_zretL C hR (dq dk_House_isFlow 13 rfl) (Or.inr rfl) h
  rw [if_neg e0_0] at h
  by_cases e1_1 : v0 = 1
  · rw [if_pos e1_1] at h
    refine ww_tabIn C 74 (dq dk_House_isFlow 1 rfl) (by rw [e1_1]; decide) (by rw [e1_1]; decide) (by rw [e1_1]; rfl) (by decide) ?_
    refine ww_iload_n C 1 rfl rfl (dq dk_House_isFlow 14 rfl) ?_
    refine ww_cSi (st := []) C (c_House_isLabel v1) cw_House_isLabel g_3_134 hRm ⟨⟨rfl, rfl⟩, le_ rfl, le_ rfl⟩ rfl rfl rfl (le_ rfl) (dq dk_House_isFlow 15 rfl) h (fun x4 σ3 h => ?_)
    exact ww_zret C hR (dq dk_House_isFlow 16 rfl) h
  rw [if_neg e1_1] at h
  by_cases e2_2 : v0 = 2
  · rw [if_pos e2_2] at h
    refine ww_tabIn C 79 (dq dk_House_isFlow 1 rfl) (by rw [e2_2]; decide) (by rw [e2_2]; decide) (by rw [e2_2]; rfl) (by decide) ?_
    refine ww_iload_n C 1 rfl rfl (dq dk_House_isFlow 17 rfl) ?_
    refine ww_cSi (st := []) C (c_House_isLabel v1) cw_House_isLabel g_3_134 hRm ⟨⟨rfl, rfl⟩, le_ rfl, le_ rfl⟩ rfl rfl rfl (le_ rfl) (dq dk_House_isFlow 18 rfl) h (fun x6 σ5 h => ?_)
    refine ww_if_eq C 97 (dq dk_House_isFlow 19 rfl) (by decide) h (fun h => ?_) (fun h => ?_)
    · refine ww_iconst C (dq dk_House_isFlow 25 rfl) ic_0 ?_
      exact ww_zretL C hR (dq dk_House_isFlow 26 rfl) (Or.inl rfl) h
    · refine ww_iload_n C 2 rfl rfl (dq dk_House_isFlow 20 rfl) ?_
      refine ww_cSi (st := []) C (c_House_isCondition v2) cw_House_isCondition g_3_137 hRm ⟨⟨rfl, rfl⟩, le_ rfl, le_ rfl⟩ rfl rfl rfl (le_ rfl) (dq dk_House_isFlow 21 rfl) h (fun x8 σ7 h => ?_)
      refine ww_if_eq C 97 (dq dk_House_isFlow 22 rfl) (by decide) h (fun h => ?_) (fun h => ?_)
      · refine ww_iconst C (dq dk_House_isFlow 25 rfl) ic_0 ?_
        exact ww_zretL C hR (dq dk_House_isFlow 26 rfl) (Or.inl rfl) h
      · refine ww_iconst C (dq dk_House_isFlow 23 rfl) ic_1 ?_
        refine ww_goto C 98 (dq dk_House_isFlow 24 rfl) (by decide) ?_
        exact ww_zretL C hR (dq dk_House_isFlow 26 rfl) (Or.inr rfl) h
  rw [if_neg e2_2] at h
  by_cases e3_3 : v0 = 3
  · rw [if_pos e3_3] at h
    refine ww_tabIn C 74 (dq dk_House_isFlow 1 rfl) (by rw [e3_3]; decide) (by rw [e3_3]; decide) (by rw [e3_3]; rfl) (by decide) ?_
    refine ww_iload_n C 1 rfl rfl (dq dk_House_isFlow 14 rfl) ?_
    refine ww_cSi (st := []) C (c_House_isLabel v1) cw_House_isLabel g_3_134 hRm ⟨⟨rfl, rfl⟩, le_ rfl, le_ rfl⟩ rfl rfl rfl (le_ rfl) (dq dk_House_isFlow 15 rfl) h (fun x10 σ9 h => ?_)
    exact ww_zret C hR (dq dk_House_isFlow 16 rfl) h
  rw [if_neg e3_3] at h
  by_cases e4_4 : v0 = 4
  · rw [if_pos e4_4] at h
    refine ww_tabIn C 99 (dq dk_House_isFlow 1 rfl) (by rw [e4_4]; decide) (by rw [e4_4]; decide) (by rw [e4_4]; rfl) (by decide) ?_
    refine ww_iload_n C 1 rfl rfl (dq dk_House_isFlow 27 rfl) ?_
    refine ww_if_lt C 112 (dq dk_House_isFlow 28 rfl) (by decide) h (fun h => ?_) (fun h => ?_)
    · refine ww_iconst C (dq dk_House_isFlow 34 rfl) ic_0 ?_
      exact ww_zretL C hR (dq dk_House_isFlow 35 rfl) (Or.inl rfl) h
    · refine ww_iload_n C 1 rfl rfl (dq dk_House_isFlow 29 rfl) ?_
      refine ww_iconst C (dq dk_House_isFlow 30 rfl) ic_3 ?_
      refine ww_icmp_gt C 112 (dq dk_House_isFlow 31 rfl) (by decide) h (fun h => ?_) (fun h => ?_)
      · refine ww_iconst C (dq dk_House_isFlow 34 rfl) ic_0 ?_
        exact ww_zretL C hR (dq dk_House_isFlow 35 rfl) (Or.inl rfl) h
      · refine ww_iconst C (dq dk_House_isFlow 32 rfl) ic_1 ?_
        refine ww_goto C 113 (dq dk_House_isFlow 33 rfl) (by decide) ?_
        exact ww_zretL C hR (dq dk_House_isFlow 35 rfl) (Or.inr rfl) h
  rw [if_neg e4_4] at h
  by_cases e5_5 : v0 = 5
  · rw [if_pos e5_5] at h
    refine ww_tabIn C 114 (dq dk_House_isFlow 1 rfl) (by rw [e5_5]; decide) (by rw [e5_5]; decide) (by rw [e5_5]; rfl) (by decide) ?_
    exact ww_lv [1] rfl (t_House_isFlow_B114 C hR hRm hnL v1 σ h)
  rw [if_neg e5_5] at h
  by_cases e6_6 : v0 = 6
  · rw [if_pos e6_6] at h
    refine ww_tabIn C 114 (dq dk_House_isFlow 1 rfl) (by rw [e6_6]; decide) (by rw [e6_6]; decide) (by rw [e6_6]; rfl) (by decide) ?_
    exact ww_lv [1] rfl (t_House_isFlow_B114 C hR hRm hnL v1 σ h)
  rw [if_neg e6_6] at h
  by_cases e7_7 : v0 = 7
  · rw [if_pos e7_7] at h
    refine ww_tabIn C 132 (dq dk_House_isFlow 1 rfl) (by rw [e7_7]; decide) (by rw [e7_7]; decide) (by rw [e7_7]; rfl) (by decide) ?_
    refine ww_iconst C (dq dk_House_isFlow 46 rfl) ic_1 ?_
    exact ww_zretL C hR (dq dk_House_isFlow 47 rfl) (Or.inr rfl) h
  rw [if_neg e7_7] at h
  by_cases e8_8 : v0 = 8
  · rw [if_pos e8_8] at h
    refine ww_tabIn C 134 (dq dk_House_isFlow 1 rfl) (by rw [e8_8]; decide) (by rw [e8_8]; decide) (by rw [e8_8]; rfl) (by decide) ?_
    refine ww_iload_n C 1 rfl rfl (dq dk_House_isFlow 48 rfl) ?_
    refine ww_cSi (st := []) C (c_House_isLabel v1) cw_House_isLabel g_3_134 hRm ⟨⟨rfl, rfl⟩, le_ rfl, le_ rfl⟩ rfl rfl rfl (le_ rfl) (dq dk_House_isFlow 49 rfl) h (fun x12 σ11 h => ?_)
    refine ww_if_eq C 152 (dq dk_House_isFlow 50 rfl) (by decide) h (fun h => ?_) (fun h => ?_)
    · refine ww_iconst C (dq dk_House_isFlow 56 rfl) ic_0 ?_
      exact ww_zretL C hR (dq dk_House_isFlow 57 rfl) (Or.inl rfl) h
    · refine ww_iload_n C 2 rfl rfl (dq dk_House_isFlow 51 rfl) ?_
      refine ww_cSi (st := []) C (c_House_isRegister v2) cw_House_isRegister g_3_110 hRm ⟨⟨rfl, rfl⟩, le_ rfl, le_ rfl⟩ rfl rfl rfl (le_ rfl) (dq dk_House_isFlow 52 rfl) h (fun x14 σ13 h => ?_)
      refine ww_if_eq C 152 (dq dk_House_isFlow 53 rfl) (by decide) h (fun h => ?_) (fun h => ?_)
      · refine ww_iconst C (dq dk_House_isFlow 56 rfl) ic_0 ?_
        exact ww_zretL C hR (dq dk_House_isFlow 57 rfl) (Or.inl rfl) h
      · refine ww_iconst C (dq dk_House_isFlow 54 rfl) ic_1 ?_
        refine ww_goto C 153 (dq dk_House_isFlow 55 rfl) (by decide) ?_
        exact ww_zretL C hR (dq dk_House_isFlow 57 rfl) (Or.inr rfl) h
  rw [if_neg e8_8] at h
  have ne0_0 := lv_neT (a := 0) e0_0 (by decide)
  have ne1_1 := lv_neT (a := 1) e1_1 (by decide)
  have ne2_2 := lv_neT (a := 2) e2_2 (by decide)
  have ne3_3 := lv_neT (a := 3) e3_3 (by decide)
  have ne4_4 := lv_neT (a := 4) e4_4 (by decide)
  have ne5_5 := lv_neT (a := 5) e5_5 (by decide)
  have ne6_6 := lv_neT (a := 6) e6_6 (by decide)
  have ne7_7 := lv_neT (a := 7) e7_7 (by decide)
  have ne8_8 := lv_neT (a := 8) e8_8 (by decide)
  refine ww_tabOut C 154 (dq dk_House_isFlow 1 rfl) (by omega) (by decide) ?_
  refine ww_iconst C (dq dk_House_isFlow 58 rfl) ic_0 ?_
  exact ww_zretL C hR (dq dk_House_isFlow 59 rfl) (Or.inl rfl) h
abbrev y_House_flow : MethodName := ⟨"BundleHouse", "flow", "(III)I"⟩
def dl_House_flow : List (Nat × Instr × Nat) := [(0, .aload_n 0, 1), (1, .getfield 41, 3), (4, .invokevirtual 119, 3), (7, .ifCond .ne 12, 3), (10, .iload_n 1, 1), (11, .iload_n 2, 1), (12, .iload_n 3, 1), (13, .invokestatic 132, 3), (16, .ifCond .ne 5, 3), (19, .iconst (-1), 1), (20, .ireturn, 1), (21, .aload_n 0, 1), (22, .getfield 41, 3), (25, .iload_n 1, 1), (26, .iload_n 2, 1), (27, .iload_n 3, 1), (28, .invokevirtual 136, 3), (31, .aload_n 0, 1), (32, .getfield 41, 3), (35, .getfield 131, 3), (38, .ireturn, 1)]
set_option maxRecDepth 100000 in
theorem dk_House_flow : ∀ q ∈ dl_House_flow, decode prog_1_method_7_code q.1 = .ok q.2 := by decide +kernel
abbrev rm_House_flow : Room := { frames := 2, cells := 0, slots := 0, locals := 43 }
theorem cw_House_flow : CWV y_House_flow prog_1_method_7_code 4 (some .int) 3 := ⟨⟨g_3_130, g_1_1, by decide, by decide, by decide +kernel⟩, g_3_128, g_3_129⟩
set_option maxHeartbeats 4000000 in
set_option maxRecDepth 100000 in
theorem c_House_flow (v0 : Nat) (ho_v0 : kd v0 = 0) (v1 : Int32) (v2 : Int32) (v3 : Int32) : MI y_House_flow rm_House_flow prog_1_method_7_code 4 .int (fun a => [.ref (a v0), .int v1, .int v2, .int v3]) (House_flow v0 v1 v2 v3) := by
  refine mi_of (by decide) (fun _ => le_ rfl) ?_
  intro k res σ C hR hRm hnL h
  unfold House_flow at h
  show WW k 0 [(0, .ref (ad k v0)), (1, .int v1), (2, .int v2), (3, .int v3)] [] σ
  refine ww_aload_n C 0 rfl rfl (dq dk_House_flow 0 rfl) ?_
  refine ww_getr C ko_House 5 ho_v0 (lt_ rfl) g_2_160 rfl rfl (dq dk_House_flow 1 rfl) ?_
  refine ww_cVi (st := []) C (c_Program_isFull (ch v0 5) (kc_House_5 _ ho_v0)) cw_Program_isFull (kc_House_5 _ ho_v0) (lt_ rfl) rfl g_3_101 hRm ⟨⟨rfl, rfl⟩, le_ rfl, le_ rfl⟩ rfl rfl rfl (le_ rfl) (dq dk_House_flow 2 rfl) h (fun x2 σ1 h => ?_)
  refine ww_if_ne C 19 (dq dk_House_flow 3 rfl) (by decide) h (fun h => ?_) (fun h => ?_)
  · refine ww_iconst C (dq dk_House_flow 9 rfl) ic_m1 ?_
    exact ww_iret C hR (dq dk_House_flow 10 rfl) h
  · refine ww_iload_n C 1 rfl rfl (dq dk_House_flow 4 rfl) ?_
    refine ww_iload_n C 2 rfl rfl (dq dk_House_flow 5 rfl) ?_
    refine ww_iload_n C 3 rfl rfl (dq dk_House_flow 6 rfl) ?_
    refine ww_cSi (st := []) C (c_House_isFlow v1 v2 v3) cw_House_isFlow g_3_131 hRm ⟨⟨rfl, rfl⟩, le_ rfl, le_ rfl⟩ rfl rfl rfl (le_ rfl) (dq dk_House_flow 7 rfl) h (fun x4 σ3 h => ?_)
    refine ww_if_ne C 21 (dq dk_House_flow 8 rfl) (by decide) h (fun h => ?_) (fun h => ?_)
    · refine ww_aload_n C 0 rfl rfl (dq dk_House_flow 11 rfl) ?_
      refine ww_getr C ko_House 5 ho_v0 (lt_ rfl) g_2_160 rfl rfl (dq dk_House_flow 12 rfl) ?_
      refine ww_iload_n C 1 rfl rfl (dq dk_House_flow 13 rfl) ?_
      refine ww_iload_n C 2 rfl rfl (dq dk_House_flow 14 rfl) ?_
      refine ww_iload_n C 3 rfl rfl (dq dk_House_flow 15 rfl) ?_
      refine ww_cVv (st := []) C (c_Program_addFlow (ch v0 5) (kc_House_5 _ ho_v0) v1 v2 v3) cw_Program_addFlow (kc_House_5 _ ho_v0) (lt_ rfl) rfl g_3_138 hRm ⟨⟨rfl, rfl⟩, le_ rfl, le_ rfl⟩ rfl rfl rfl (le_ rfl) (dq dk_House_flow 16 rfl) h (fun σ5 h => ?_)
      refine ww_aload_n C 0 rfl rfl (dq dk_House_flow 17 rfl) ?_
      refine ww_getr C ko_House 5 ho_v0 (lt_ rfl) g_2_160 rfl rfl (dq dk_House_flow 18 rfl) ?_
      refine ww_geti C ko_Program 4 (kc_House_5 _ ho_v0) (lt_ rfl) g_1_188 rfl rfl (dq dk_House_flow 19 rfl) ?_
      exact ww_iret C hR (dq dk_House_flow 20 rfl) h
    · refine ww_iconst C (dq dk_House_flow 9 rfl) ic_m1 ?_
      exact ww_iret C hR (dq dk_House_flow 10 rfl) h
abbrev y_House_clear : MethodName := ⟨"BundleHouse", "clear", "()I"⟩
def dl_House_clear : List (Nat × Instr × Nat) := [(0, .aload_n 0, 1), (1, .getfield 41, 3), (4, .getfield 131, 3), (7, .istore_n 1, 1), (8, .aload_n 0, 1), (9, .getfield 41, 3), (12, .iconst 0, 1), (13, .putfield 131, 3), (16, .iload_n 1, 1), (17, .ireturn, 1)]
set_option maxRecDepth 100000 in
theorem dk_House_clear : ∀ q ∈ dl_House_clear, decode prog_1_method_8_code q.1 = .ok q.2 := by decide +kernel
abbrev rm_House_clear : Room := { frames := 0, cells := 0, slots := 0, locals := 0 }
theorem cw_House_clear : CWV y_House_clear prog_1_method_8_code 2 (some .int) 0 := ⟨⟨g_3_145, g_1_1, by decide, by decide, by decide +kernel⟩, g_3_143, g_3_144⟩
set_option maxHeartbeats 4000000 in
set_option maxRecDepth 100000 in
theorem c_House_clear (v0 : Nat) (ho_v0 : kd v0 = 0) : MI y_House_clear rm_House_clear prog_1_method_8_code 2 .int (fun a => [.ref (a v0)]) (House_clear v0) := by
  refine mi_of (by decide) (fun _ => le_ rfl) ?_
  intro k res σ C hR hRm hnL h
  unfold House_clear at h
  show WW k 0 [(0, .ref (ad k v0))] [] σ
  refine ww_aload_n C 0 rfl rfl (dq dk_House_clear 0 rfl) ?_
  refine ww_getr C ko_House 5 ho_v0 (lt_ rfl) g_2_160 rfl rfl (dq dk_House_clear 1 rfl) ?_
  refine ww_geti C ko_Program 4 (kc_House_5 _ ho_v0) (lt_ rfl) g_1_188 rfl rfl (dq dk_House_clear 2 rfl) ?_
  refine ww_nmi h (fun x1 h => ?_)
  refine ww_istore_n C [(1, .int x1), (0, .ref (ad k v0))] rfl hnL (lt_ rfl) rfl (dq dk_House_clear 3 rfl) ?_
  refine ww_aload_n C 1 rfl rfl (dq dk_House_clear 4 rfl) ?_
  refine ww_getr C ko_House 5 ho_v0 (lt_ rfl) g_2_160 rfl rfl (dq dk_House_clear 5 rfl) ?_
  refine ww_iconst C (dq dk_House_clear 6 rfl) ic_0 ?_
  refine ww_puti C ko_Program 4 (kc_House_5 _ ho_v0) (lt_ rfl) g_1_188 rfl rfl rfl rfl (dq dk_House_clear 7 rfl) h (fun σ2 h => ?_)
  refine ww_iload_n C 0 rfl rfl (dq dk_House_clear 8 rfl) ?_
  exact ww_iret C hR (dq dk_House_clear 9 rfl) h
abbrev y_House_build : MethodName := ⟨"BundleHouse", "build", "()I"⟩
def dl_House_build : List (Nat × Instr × Nat) := [(0, .aload_n 0, 1), (1, .aload_n 0, 1), (2, .getfield 50, 3), (5, .invokevirtual 140, 3), (8, .putfield 103, 3), (11, .aload_n 0, 1), (12, .aload_n 0, 1), (13, .getfield 50, 3), (16, .getfield 141, 3), (19, .putfield 88, 3), (22, .aload_n 0, 1), (23, .getfield 103, 3), (26, .ifCond .ne 38, 3), (29, .aload_n 0, 1), (30, .getfield 50, 3), (33, .invokevirtual 144, 3), (36, .aload_n 0, 1), (37, .getfield 28, 3), (40, .invokevirtual 99, 3), (43, .pop, 1), (44, .aload_n 0, 1), (45, .getfield 54, 3), (48, .aload_n 0, 1), (49, .getfield 41, 3), (52, .invokevirtual 147, 3), (55, .aload_n 0, 1), (56, .iconst 1, 1), (57, .putfield 112, 3), (60, .aload_n 0, 1), (61, .invokevirtual 116, 3), (64, .aload_n 0, 1), (65, .getfield 103, 3), (68, .ireturn, 1)]
set_option maxRecDepth 100000 in
theorem dk_House_build : ∀ q ∈ dl_House_build, decode prog_1_method_9_code q.1 = .ok q.2 := by decide +kernel
abbrev rm_House_build : Room := { frames := 6, cells := 0, slots := 0, locals := 138 }
theorem cw_House_build : CWV y_House_build prog_1_method_9_code 1 (some .int) 0 := ⟨⟨g_3_149, g_1_1, by decide, by decide, by decide +kernel⟩, g_3_147, g_3_148⟩
set_option maxHeartbeats 4000000 in
set_option maxRecDepth 100000 in
theorem c_House_build (v0 : Nat) (ho_v0 : kd v0 = 0) : MI y_House_build rm_House_build prog_1_method_9_code 1 .int (fun a => [.ref (a v0)]) (House_build v0) := by
  refine mi_of (by decide) (fun _ => le_ rfl) ?_
  intro k res σ C hR hRm hnL h
  unfold House_build at h
  show WW k 0 [(0, .ref (ad k v0))] [] σ
  refine ww_aload_n C 0 rfl rfl (dq dk_House_build 0 rfl) ?_
  refine ww_aload_n C 0 rfl rfl (dq dk_House_build 1 rfl) ?_
  refine ww_getr C ko_House 6 ho_v0 (lt_ rfl) g_2_161 rfl rfl (dq dk_House_build 2 rfl) ?_
  refine ww_cVi (st := [.ref (ad k v0)]) C (c_Builder_findFault (ch v0 6) (kc_House_6 _ ho_v0)) cw_Builder_findFault (kc_House_6 _ ho_v0) (lt_ rfl) rfl g_3_150 hRm ⟨⟨rfl, rfl⟩, le_ rfl, le_ rfl⟩ rfl rfl rfl (le_ rfl) (dq dk_House_build 3 rfl) h (fun x2 σ1 h => ?_)
  refine ww_puti C ko_House 14 ho_v0 (lt_ rfl) g_2_169 rfl rfl rfl rfl (dq dk_House_build 4 rfl) h (fun σ3 h => ?_)
  refine ww_aload_n C 0 rfl rfl (dq dk_House_build 5 rfl) ?_
  refine ww_aload_n C 0 rfl rfl (dq dk_House_build 6 rfl) ?_
  refine ww_getr C ko_House 6 ho_v0 (lt_ rfl) g_2_161 rfl rfl (dq dk_House_build 7 rfl) ?_
  refine ww_geti C ko_Builder 0 (kc_House_6 _ ho_v0) (lt_ rfl) g_2_13 rfl rfl (dq dk_House_build 8 rfl) ?_
  refine ww_puti C ko_House 15 ho_v0 (lt_ rfl) g_2_170 rfl rfl rfl rfl (dq dk_House_build 9 rfl) h (fun σ4 h => ?_)
  refine ww_aload_n C 0 rfl rfl (dq dk_House_build 10 rfl) ?_
  refine ww_geti C ko_House 14 ho_v0 (lt_ rfl) g_2_169 rfl rfl (dq dk_House_build 11 rfl) ?_
  refine ww_if_ne C 64 (dq dk_House_build 12 rfl) (by decide) h (fun h => ?_) (fun h => ?_)
  · refine ww_aload_n C 0 rfl rfl (dq dk_House_build 30 rfl) ?_
    refine ww_geti C ko_House 14 ho_v0 (lt_ rfl) g_2_169 rfl rfl (dq dk_House_build 31 rfl) ?_
    exact ww_iret C hR (dq dk_House_build 32 rfl) h
  · refine ww_aload_n C 0 rfl rfl (dq dk_House_build 13 rfl) ?_
    refine ww_getr C ko_House 6 ho_v0 (lt_ rfl) g_2_161 rfl rfl (dq dk_House_build 14 rfl) ?_
    refine ww_cVv (st := []) C (c_Builder_writeCode (ch v0 6) (kc_House_6 _ ho_v0)) cw_Builder_writeCode (kc_House_6 _ ho_v0) (lt_ rfl) rfl g_4_45 hRm ⟨⟨rfl, rfl⟩, le_ rfl, le_ rfl⟩ rfl rfl rfl (le_ rfl) (dq dk_House_build 15 rfl) h (fun σ5 h => ?_)
    refine ww_aload_n C 0 rfl rfl (dq dk_House_build 16 rfl) ?_
    refine ww_getr C ko_House 3 ho_v0 (lt_ rfl) g_2_158 rfl rfl (dq dk_House_build 17 rfl) ?_
    refine ww_cVi (st := []) C (c_Policy_findFault (ch v0 3) (kc_House_3 _ ho_v0)) cw_Policy_findFault (kc_House_3 _ ho_v0) (lt_ rfl) rfl g_2_220 hRm ⟨⟨rfl, rfl⟩, le_ rfl, le_ rfl⟩ rfl rfl rfl (le_ rfl) (dq dk_House_build 18 rfl) h (fun x7 σ6 h => ?_)
    refine ww_pop C rfl (dq dk_House_build 19 rfl) ?_
    refine ww_aload_n C 0 rfl rfl (dq dk_House_build 20 rfl) ?_
    refine ww_getr C ko_House 7 ho_v0 (lt_ rfl) g_2_162 rfl rfl (dq dk_House_build 21 rfl) ?_
    refine ww_aload_n C 0 rfl rfl (dq dk_House_build 22 rfl) ?_
    refine ww_getr C ko_House 5 ho_v0 (lt_ rfl) g_2_160 rfl rfl (dq dk_House_build 23 rfl) ?_
    refine ww_cVv (st := []) C (c_Program_copyFrom (ch v0 7) (kc_House_7 _ ho_v0) (ch v0 5) (kc_House_5 _ ho_v0)) cw_Program_copyFrom (kc_House_7 _ ho_v0) (lt_ rfl) rfl g_4_102 hRm ⟨⟨rfl, rfl⟩, le_ rfl, le_ rfl⟩ rfl rfl rfl (le_ rfl) (dq dk_House_build 24 rfl) h (fun σ8 h => ?_)
    refine ww_aload_n C 0 rfl rfl (dq dk_House_build 25 rfl) ?_
    refine ww_iconst C (dq dk_House_build 26 rfl) ic_1 ?_
    refine ww_putZ C ko_House 13 ho_v0 (lt_ rfl) g_2_168 rfl rfl rfl rfl (Or.inr rfl) (dq dk_House_build 27 rfl) h (fun σ9 h => ?_)
    refine ww_aload_n C 0 rfl rfl (dq dk_House_build 28 rfl) ?_
    refine ww_cVv (st := []) C (c_House_forgetRuns v0 ho_v0) cw_House_forgetRuns ho_v0 (lt_ rfl) rfl g_3_89 hRm ⟨⟨rfl, rfl⟩, le_ rfl, le_ rfl⟩ rfl rfl rfl (le_ rfl) (dq dk_House_build 29 rfl) h (fun σ10 h => ?_)
    refine ww_aload_n C 0 rfl rfl (dq dk_House_build 30 rfl) ?_
    refine ww_geti C ko_House 14 ho_v0 (lt_ rfl) g_2_169 rfl rfl (dq dk_House_build 31 rfl) ?_
    exact ww_iret C hR (dq dk_House_build 32 rfl) h
abbrev y_House_size : MethodName := ⟨"BundleHouse", "size", "()I"⟩
def dl_House_size : List (Nat × Instr × Nat) := [(0, .aload_n 0, 1), (1, .getfield 25, 3), (4, .getfield 92, 3), (7, .ireturn, 1)]
set_option maxRecDepth 100000 in
theorem dk_House_size : ∀ q ∈ dl_House_size, decode prog_1_method_10_code q.1 = .ok q.2 := by decide +kernel
abbrev rm_House_size : Room := { frames := 0, cells := 0, slots := 0, locals := 0 }
theorem cw_House_size : CWV y_House_size prog_1_method_10_code 1 (some .int) 0 := ⟨⟨g_4_110, g_1_1, by decide, by decide, by decide +kernel⟩, g_4_108, g_4_109⟩
set_option maxHeartbeats 4000000 in
set_option maxRecDepth 100000 in
theorem c_House_size (v0 : Nat) (ho_v0 : kd v0 = 0) : MI y_House_size rm_House_size prog_1_method_10_code 1 .int (fun a => [.ref (a v0)]) (House_size v0) := by
  refine mi_of (by decide) (fun _ => le_ rfl) ?_
  intro k res σ C hR hRm hnL h
  unfold House_size at h
  show WW k 0 [(0, .ref (ad k v0))] [] σ
  refine ww_aload_n C 0 rfl rfl (dq dk_House_size 0 rfl) ?_
  refine ww_getr C ko_House 2 ho_v0 (lt_ rfl) g_2_157 rfl rfl (dq dk_House_size 1 rfl) ?_
  refine ww_geti C ko_Strip 2 (kc_House_2 _ ho_v0) (lt_ rfl) g_1_39 rfl rfl (dq dk_House_size 2 rfl) ?_
  exact ww_iret C hR (dq dk_House_size 3 rfl) h
abbrev y_House_code : MethodName := ⟨"BundleHouse", "code", "(I)I"⟩
def dl_House_code : List (Nat × Instr × Nat) := [(0, .aload_n 0, 1), (1, .getfield 25, 3), (4, .iload_n 1, 1), (5, .invokevirtual 150, 3), (8, .ireturn, 1)]
set_option maxRecDepth 100000 in
theorem dk_House_code : ∀ q ∈ dl_House_code, decode prog_1_method_11_code q.1 = .ok q.2 := by decide +kernel
abbrev rm_House_code : Room := { frames := 1, cells := 0, slots := 0, locals := 21 }
theorem cw_House_code : CWV y_House_code prog_1_method_11_code 2 (some .int) 1 := ⟨⟨g_4_114, g_1_1, by decide, by decide, by decide +kernel⟩, g_4_112, g_4_113⟩
set_option maxHeartbeats 4000000 in
set_option maxRecDepth 100000 in
theorem c_House_code (v0 : Nat) (ho_v0 : kd v0 = 0) (v1 : Int32) : MI y_House_code rm_House_code prog_1_method_11_code 2 .int (fun a => [.ref (a v0), .int v1]) (House_code v0 v1) := by
  refine mi_of (by decide) (fun _ => le_ rfl) ?_
  intro k res σ C hR hRm hnL h
  unfold House_code at h
  show WW k 0 [(0, .ref (ad k v0)), (1, .int v1)] [] σ
  refine ww_aload_n C 0 rfl rfl (dq dk_House_code 0 rfl) ?_
  refine ww_getr C ko_House 2 ho_v0 (lt_ rfl) g_2_157 rfl rfl (dq dk_House_code 1 rfl) ?_
  refine ww_iload_n C 1 rfl rfl (dq dk_House_code 2 rfl) ?_
  refine ww_cVi (st := []) C (c_Strip_byteAt (ch v0 2) (kc_House_2 _ ho_v0) v1) cw_Strip_byteAt (kc_House_2 _ ho_v0) (lt_ rfl) rfl g_4_115 hRm ⟨⟨rfl, rfl⟩, le_ rfl, le_ rfl⟩ rfl rfl rfl (le_ rfl) (dq dk_House_code 3 rfl) h (fun x2 σ1 h => ?_)
  exact ww_iret C hR (dq dk_House_code 4 rfl) h
abbrev y_House_place : MethodName := ⟨"BundleHouse", "place", "(II)I"⟩
def dl_House_place : List (Nat × Instr × Nat) := [(0, .aload_n 0, 1), (1, .getfield 112, 3), (4, .ifCond .ne 5, 3), (7, .iconst (-1), 1), (8, .ireturn, 1), (9, .iload_n 1, 1), (10, .tableswitch 59 0 2 #[26, 35, 51], 26), (36, .aload_n 0, 1), (37, .getfield 54, 3), (40, .iload_n 2, 1), (41, .invokevirtual 179, 3), (44, .ireturn, 1), (45, .aload_n 0, 1), (46, .getfield 54, 3), (49, .aload_n 0, 1), (50, .getfield 54, 3), (53, .iload_n 2, 1), (54, .invokevirtual 182, 3), (57, .invokevirtual 179, 3), (60, .ireturn, 1), (61, .aload_n 0, 1), (62, .getfield 54, 3), (65, .getfield 131, 3), (68, .ireturn, 1), (69, .iconst (-1), 1), (70, .ireturn, 1)]
set_option maxRecDepth 100000 in
theorem dk_House_place : ∀ q ∈ dl_House_place, decode prog_1_method_13_code q.1 = .ok q.2 := by decide +kernel
abbrev rm_House_place : Room := { frames := 2, cells := 0, slots := 0, locals := 42 }
theorem cw_House_place : CWV y_House_place prog_1_method_13_code 3 (some .int) 2 := ⟨⟨g_4_119, g_1_1, by decide, by decide, by decide +kernel⟩, g_4_117, g_4_118⟩
set_option maxHeartbeats 4000000 in
set_option maxRecDepth 100000 in
theorem c_House_place (v0 : Nat) (ho_v0 : kd v0 = 0) (v1 : Int32) (v2 : Int32) : MI y_House_place rm_House_place prog_1_method_13_code 3 .int (fun a => [.ref (a v0), .int v1, .int v2]) (House_place v0 v1 v2) := by
  refine mi_of (by decide) (fun _ => le_ rfl) ?_
  intro k res σ C hR hRm hnL h
  unfold House_place at h
  show WW k 0 [(0, .ref (ad k v0)), (1, .int v1), (2, .int v2)] [] σ
  refine ww_aload_n C 0 rfl rfl (dq dk_House_place 0 rfl) ?_
  refine ww_geti C ko_House 13 ho_v0 (lt_ rfl) g_2_168 rfl rfl (dq dk_House_place 1 rfl) ?_
  refine ww_if_ne C 9 (dq dk_House_place 2 rfl) (by decide) h (fun h => ?_) (fun h => ?_)
  · refine ww_iload_n C 1 rfl rfl (dq dk_House_place 5 rfl) ?_
    by_cases e0_0 : v1 = 0
    · rw [if_pos e0_0] at h
      refine ww_tabIn C 36 (dq dk_House_place 6 rfl) (by rw [e0_0]; decide) (by rw [e0_0]; decide) (by rw [e0_0]; rfl) (by decide) ?_
      refine ww_aload_n C 0 rfl rfl (dq dk_House_place 7 rfl) ?_
      refine ww_getr C ko_House 7 ho_v0 (lt_ rfl) g_2_162 rfl rfl (dq dk_House_place 8 rfl) ?_
      refine ww_iload_n C 2 rfl rfl (dq dk_House_place 9 rfl) ?_
      refine ww_cVi (st := []) C (c_Program_itemPlace (ch v0 7) (kc_House_7 _ ho_v0) v2) cw_Program_itemPlace (kc_House_7 _ ho_v0) (lt_ rfl) rfl g_4_120 hRm ⟨⟨rfl, rfl⟩, le_ rfl, le_ rfl⟩ rfl rfl rfl (le_ rfl) (dq dk_House_place 10 rfl) h (fun x2 σ1 h => ?_)
      exact ww_iret C hR (dq dk_House_place 11 rfl) h
    rw [if_neg e0_0] at h
    by_cases e1_1 : v1 = 1
    · rw [if_pos e1_1] at h
      refine ww_tabIn C 45 (dq dk_House_place 6 rfl) (by rw [e1_1]; decide) (by rw [e1_1]; decide) (by rw [e1_1]; rfl) (by decide) ?_
      refine ww_aload_n C 0 rfl rfl (dq dk_House_place 12 rfl) ?_
      refine ww_getr C ko_House 7 ho_v0 (lt_ rfl) g_2_162 rfl rfl (dq dk_House_place 13 rfl) ?_
      refine ww_aload_n C 0 rfl rfl (dq dk_House_place 14 rfl) ?_
      refine ww_getr C ko_House 7 ho_v0 (lt_ rfl) g_2_162 rfl rfl (dq dk_House_place 15 rfl) ?_
      refine ww_iload_n C 2 rfl rfl (dq dk_House_place 16 rfl) ?_
      refine ww_cVi (st := [.ref (ad k (ch v0 7))]) C (c_Program_labelItem (ch v0 7) (kc_House_7 _ ho_v0) v2) cw_Program_labelItem (kc_House_7 _ ho_v0) (lt_ rfl) rfl g_4_121 hRm ⟨⟨rfl, rfl⟩, le_ rfl, le_ rfl⟩ rfl rfl rfl (le_ rfl) (dq dk_House_place 17 rfl) h (fun x4 σ3 h => ?_)
      refine ww_cVi (st := []) C (c_Program_itemPlace (ch v0 7) (kc_House_7 _ ho_v0) x4) cw_Program_itemPlace (kc_House_7 _ ho_v0) (lt_ rfl) rfl g_4_120 hRm ⟨⟨rfl, rfl⟩, le_ rfl, le_ rfl⟩ rfl rfl rfl (le_ rfl) (dq dk_House_place 18 rfl) h (fun x6 σ5 h => ?_)
      exact ww_iret C hR (dq dk_House_place 19 rfl) h
    rw [if_neg e1_1] at h
    by_cases e2_2 : v1 = 2
    · rw [if_pos e2_2] at h
      refine ww_tabIn C 61 (dq dk_House_place 6 rfl) (by rw [e2_2]; decide) (by rw [e2_2]; decide) (by rw [e2_2]; rfl) (by decide) ?_
      refine ww_aload_n C 0 rfl rfl (dq dk_House_place 20 rfl) ?_
      refine ww_getr C ko_House 7 ho_v0 (lt_ rfl) g_2_162 rfl rfl (dq dk_House_place 21 rfl) ?_
      refine ww_geti C ko_Program 4 (kc_House_7 _ ho_v0) (lt_ rfl) g_1_188 rfl rfl (dq dk_House_place 22 rfl) ?_
      exact ww_iret C hR (dq dk_House_place 23 rfl) h
    rw [if_neg e2_2] at h
    have ne0_0 := lv_neT (a := 0) e0_0 (by decide)
    have ne1_1 := lv_neT (a := 1) e1_1 (by decide)
    have ne2_2 := lv_neT (a := 2) e2_2 (by decide)
    refine ww_tabOut C 69 (dq dk_House_place 6 rfl) (by omega) (by decide) ?_
    refine ww_iconst C (dq dk_House_place 24 rfl) ic_m1 ?_
    exact ww_iret C hR (dq dk_House_place 25 rfl) h
  · refine ww_iconst C (dq dk_House_place 3 rfl) ic_m1 ?_
    exact ww_iret C hR (dq dk_House_place 4 rfl) h
abbrev y_House_set : MethodName := ⟨"BundleHouse", "set", "(III)Z"⟩
def dl_House_set : List (Nat × Instr × Nat) := [(0, .iload_n 1, 1), (1, .tableswitch 89 0 3 #[31, 51, 71, 80], 31), (32, .iload_n 2, 1), (33, .invokestatic 185, 3), (36, .ifCond .ne 5, 3), (39, .iconst 0, 1), (40, .ireturn, 1), (41, .aload_n 0, 1), (42, .getfield 60, 3), (45, .iload_n 2, 1), (46, .iload_n 3, 1), (47, .invokevirtual 188, 3), (50, .iconst 1, 1), (51, .ireturn, 1), (52, .iload_n 2, 1), (53, .invokestatic 192, 3), (56, .ifCond .ne 5, 3), (59, .iconst 0, 1), (60, .ireturn, 1), (61, .aload_n 0, 1), (62, .getfield 60, 3), (65, .iload_n 2, 1), (66, .iload_n 3, 1), (67, .invokevirtual 195, 3), (70, .iconst 1, 1), (71, .ireturn, 1), (72, .aload_n 0, 1), (73, .getfield 60, 3), (76, .iload_n 3, 1), (77, .invokevirtual 198, 3), (80, .ireturn, 1), (81, .aload_n 0, 1), (82, .getfield 60, 3), (85, .invokevirtual 201, 3), (88, .iconst 1, 1), (89, .ireturn, 1), (90, .iconst 0, 1), (91, .ireturn, 1)]
set_option maxRecDepth 100000 in
theorem dk_House_set : ∀ q ∈ dl_House_set, decode prog_1_method_14_code q.1 = .ok q.2 := by decide +kernel
abbrev rm_House_set : Room := { frames := 2, cells := 0, slots := 0, locals := 42 }
theorem cw_House_set : CWV y_House_set prog_1_method_14_code 4 (some .boolean) 3 := ⟨⟨g_4_125, g_1_1, by decide, by decide, by decide +kernel⟩, g_4_123, g_4_124⟩
set_option maxHeartbeats 4000000 in
set_option maxRecDepth 100000 in
theorem c_House_set (v0 : Nat) (ho_v0 : kd v0 = 0) (v1 : Int32) (v2 : Int32) (v3 : Int32) : MI y_House_set rm_House_set prog_1_method_14_code 4 .boolean (fun a => [.ref (a v0), .int v1, .int v2, .int v3]) (House_set v0 v1 v2 v3) := by
  refine mi_of (by decide) (fun _ => le_ rfl) ?_
  intro k res σ C hR hRm hnL h
  unfold House_set at h
  show WW k 0 [(0, .ref (ad k v0)), (1, .int v1), (2, .int v2), (3, .int v3)] [] σ
  refine ww_iload_n C 1 rfl rfl (dq dk_House_set 0 rfl) ?_
  by_cases e0_0 : v1 = 0
  · rw [if_pos e0_0] at h
    refine ww_tabIn C 32 (dq dk_House_set 1 rfl) (by rw [e0_0]; decide) (by rw [e0_0]; decide) (by rw [e0_0]; rfl) (by decide) ?_
    refine ww_iload_n C 2 rfl rfl (dq dk_House_set 2 rfl) ?_
    refine ww_cSi (st := []) C (c_House_isRegister v2) cw_House_isRegister g_3_110 hRm ⟨⟨rfl, rfl⟩, le_ rfl, le_ rfl⟩ rfl rfl rfl (le_ rfl) (dq dk_House_set 3 rfl) h (fun x2 σ1 h => ?_)
    refine ww_if_ne C 41 (dq dk_House_set 4 rfl) (by decide) h (fun h => ?_) (fun h => ?_)
    · refine ww_aload_n C 0 rfl rfl (dq dk_House_set 7 rfl) ?_
      refine ww_getr C ko_House 8 ho_v0 (lt_ rfl) g_2_163 rfl rfl (dq dk_House_set 8 rfl) ?_
      refine ww_iload_n C 2 rfl rfl (dq dk_House_set 9 rfl) ?_
      refine ww_iload_n C 3 rfl rfl (dq dk_House_set 10 rfl) ?_
      refine ww_cVv (st := []) C (c_Machine_give (ch v0 8) (kc_House_8 _ ho_v0) v2 v3) cw_Machine_give (kc_House_8 _ ho_v0) (lt_ rfl) rfl g_4_126 hRm ⟨⟨rfl, rfl⟩, le_ rfl, le_ rfl⟩ rfl rfl rfl (le_ rfl) (dq dk_House_set 11 rfl) h (fun σ3 h => ?_)
      refine ww_iconst C (dq dk_House_set 12 rfl) ic_1 ?_
      exact ww_zretL C hR (dq dk_House_set 13 rfl) (Or.inr rfl) h
    · refine ww_iconst C (dq dk_House_set 5 rfl) ic_0 ?_
      exact ww_zretL C hR (dq dk_House_set 6 rfl) (Or.inl rfl) h
  rw [if_neg e0_0] at h
  by_cases e1_1 : v1 = 1
  · rw [if_pos e1_1] at h
    refine ww_tabIn C 52 (dq dk_House_set 1 rfl) (by rw [e1_1]; decide) (by rw [e1_1]; decide) (by rw [e1_1]; rfl) (by decide) ?_
    refine ww_iload_n C 2 rfl rfl (dq dk_House_set 14 rfl) ?_
    refine ww_cSi (st := []) C (c_House_isWord v2) cw_House_isWord g_4_131 hRm ⟨⟨rfl, rfl⟩, le_ rfl, le_ rfl⟩ rfl rfl rfl (le_ rfl) (dq dk_House_set 15 rfl) h (fun x5 σ4 h => ?_)
    refine ww_if_ne C 61 (dq dk_House_set 16 rfl) (by decide) h (fun h => ?_) (fun h => ?_)
    · refine ww_aload_n C 0 rfl rfl (dq dk_House_set 19 rfl) ?_
      refine ww_getr C ko_House 8 ho_v0 (lt_ rfl) g_2_163 rfl rfl (dq dk_House_set 20 rfl) ?_
      refine ww_iload_n C 2 rfl rfl (dq dk_House_set 21 rfl) ?_
      refine ww_iload_n C 3 rfl rfl (dq dk_House_set 22 rfl) ?_
      refine ww_cVv (st := []) C (c_Machine_giveWord (ch v0 8) (kc_House_8 _ ho_v0) v2 v3) cw_Machine_giveWord (kc_House_8 _ ho_v0) (lt_ rfl) rfl g_4_134 hRm ⟨⟨rfl, rfl⟩, le_ rfl, le_ rfl⟩ rfl rfl rfl (le_ rfl) (dq dk_House_set 23 rfl) h (fun σ6 h => ?_)
      refine ww_iconst C (dq dk_House_set 24 rfl) ic_1 ?_
      exact ww_zretL C hR (dq dk_House_set 25 rfl) (Or.inr rfl) h
    · refine ww_iconst C (dq dk_House_set 17 rfl) ic_0 ?_
      exact ww_zretL C hR (dq dk_House_set 18 rfl) (Or.inl rfl) h
  rw [if_neg e1_1] at h
  by_cases e2_2 : v1 = 2
  · rw [if_pos e2_2] at h
    refine ww_tabIn C 72 (dq dk_House_set 1 rfl) (by rw [e2_2]; decide) (by rw [e2_2]; decide) (by rw [e2_2]; rfl) (by decide) ?_
    refine ww_aload_n C 0 rfl rfl (dq dk_House_set 26 rfl) ?_
    refine ww_getr C ko_House 8 ho_v0 (lt_ rfl) g_2_163 rfl rfl (dq dk_House_set 27 rfl) ?_
    refine ww_iload_n C 3 rfl rfl (dq dk_House_set 28 rfl) ?_
    refine ww_cVi (st := []) C (c_Machine_addInput (ch v0 8) (kc_House_8 _ ho_v0) v3) cw_Machine_addInput (kc_House_8 _ ho_v0) (lt_ rfl) rfl g_4_139 hRm ⟨⟨rfl, rfl⟩, le_ rfl, le_ rfl⟩ rfl rfl rfl (le_ rfl) (dq dk_House_set 29 rfl) h (fun x8 σ7 h => ?_)
    exact ww_zret C hR (dq dk_House_set 30 rfl) h
  rw [if_neg e2_2] at h
  by_cases e3_3 : v1 = 3
  · rw [if_pos e3_3] at h
    refine ww_tabIn C 81 (dq dk_House_set 1 rfl) (by rw [e3_3]; decide) (by rw [e3_3]; decide) (by rw [e3_3]; rfl) (by decide) ?_
    refine ww_aload_n C 0 rfl rfl (dq dk_House_set 31 rfl) ?_
    refine ww_getr C ko_House 8 ho_v0 (lt_ rfl) g_2_163 rfl rfl (dq dk_House_set 32 rfl) ?_
    refine ww_cVv (st := []) C (c_Machine_forget (ch v0 8) (kc_House_8 _ ho_v0)) cw_Machine_forget (kc_House_8 _ ho_v0) (lt_ rfl) rfl g_4_143 hRm ⟨⟨rfl, rfl⟩, le_ rfl, le_ rfl⟩ rfl rfl rfl (le_ rfl) (dq dk_House_set 33 rfl) h (fun σ9 h => ?_)
    refine ww_iconst C (dq dk_House_set 34 rfl) ic_1 ?_
    exact ww_zretL C hR (dq dk_House_set 35 rfl) (Or.inr rfl) h
  rw [if_neg e3_3] at h
  have ne0_0 := lv_neT (a := 0) e0_0 (by decide)
  have ne1_1 := lv_neT (a := 1) e1_1 (by decide)
  have ne2_2 := lv_neT (a := 2) e2_2 (by decide)
  have ne3_3 := lv_neT (a := 3) e3_3 (by decide)
  refine ww_tabOut C 90 (dq dk_House_set 1 rfl) (by omega) (by decide) ?_
  refine ww_iconst C (dq dk_House_set 36 rfl) ic_0 ?_
  exact ww_zretL C hR (dq dk_House_set 37 rfl) (Or.inl rfl) h
abbrev y_House_data : MethodName := ⟨"BundleHouse", "data", "(ZI)I"⟩
def dl_House_data : List (Nat × Instr × Nat) := [(0, .iload_n 1, 1), (1, .ifCond .eq 10, 3), (4, .aload_n 0, 1), (5, .getfield 67, 3), (8, .goto 7, 3), (11, .aload_n 0, 1), (12, .getfield 64, 3), (15, .astore_n 3, 1), (16, .aload_n 3, 1), (17, .getfield 224, 3), (20, .ifCond .eq 11, 3), (23, .aload_n 3, 1), (24, .iload_n 2, 1), (25, .invokevirtual 230, 3), (28, .goto 4, 3), (31, .iconst (-1), 1), (32, .ireturn, 1)]
set_option maxRecDepth 100000 in
theorem dk_House_data : ∀ q ∈ dl_House_data, decode prog_1_method_18_code q.1 = .ok q.2 := by decide +kernel
abbrev rm_House_data : Room := { frames := 1, cells := 0, slots := 0, locals := 21 }
theorem cw_House_data : CWV y_House_data prog_1_method_18_code 4 (some .int) 2 := ⟨⟨g_4_150, g_1_1, by decide, by decide, by decide +kernel⟩, g_4_148, g_4_149⟩
set_option maxHeartbeats 4000000 in
set_option maxRecDepth 100000 in
theorem t_House_data_B15 {k : Cfg} {res : Int32 × St} (C : Cx k prog_1_method_18_code "BundleHouse") (hR : RI k .int res) (hRm : k.2.2.2.1 = rm_House_data) (hnL : k.2.2.2.2.2.2.2.2.2.2.2.1 = 4) (v2 : Int32) (t0 : Nat) (ho_t0 : kd t0 = 8) (σ : St) (h : House_data_B15 v2 t0 σ = some res) : WW k 15 [(2, .int v2)] [.ref (ad k t0)] σ := by
  unfold House_data_B15 at h
  refine ww_astore_n C [(3, .ref (ad k t0)), (2, .int v2)] rfl hnL (lt_ rfl) rfl (dq dk_House_data 7 rfl) ?_
  refine ww_aload_n C 0 rfl rfl (dq dk_House_data 8 rfl) ?_
  refine ww_geti C ko_Machine 6 ho_t0 (lt_ rfl) g_2_81 rfl rfl (dq dk_House_data 9 rfl) ?_
  refine ww_if_eq C 31 (dq dk_House_data 10 rfl) (by decide) h (fun h => ?_) (fun h => ?_)
  · refine ww_iconst C (dq dk_House_data 15 rfl) ic_m1 ?_
    exact ww_iret C hR (dq dk_House_data 16 rfl) h
  · refine ww_aload_n C 0 rfl rfl (dq dk_House_data 11 rfl) ?_
    refine ww_iload_n C 1 rfl rfl (dq dk_House_data 12 rfl) ?_
    refine ww_cVi (st := []) C (c_Machine_byteAt t0 ho_t0 v2) cw_Machine_byteAt ho_t0 (lt_ rfl) rfl g_4_151 hRm ⟨⟨rfl, rfl⟩, le_ rfl, le_ rfl⟩ rfl rfl rfl (le_ rfl) (dq dk_House_data 13 rfl) h (fun x2 σ1 h => ?_)
    refine ww_goto C 32 (dq dk_House_data 14 rfl) (by decide) ?_
    exact ww_iret C hR (dq dk_House_data 16 rfl) h
set_option maxHeartbeats 4000000 in
set_option maxRecDepth 100000 in
theorem c_House_data (v0 : Nat) (ho_v0 : kd v0 = 0) (v1 : Int32) (v2 : Int32) : MI y_House_data rm_House_data prog_1_method_18_code 4 .int (fun a => [.ref (a v0), .int v1, .int v2]) (House_data v0 v1 v2) := by
  refine mi_of (by decide) (fun _ => le_ rfl) ?_
  intro k res σ C hR hRm hnL h
  unfold House_data at h
  show WW k 0 [(0, .ref (ad k v0)), (1, .int v1), (2, .int v2)] [] σ
  refine ww_iload_n C 1 rfl rfl (dq dk_House_data 0 rfl) ?_
  refine ww_if_eq C 11 (dq dk_House_data 1 rfl) (by decide) h (fun h => ?_) (fun h => ?_)
  · refine ww_aload_n C 0 rfl rfl (dq dk_House_data 5 rfl) ?_
    refine ww_getr C ko_House 9 ho_v0 (lt_ rfl) g_2_164 rfl rfl (dq dk_House_data 6 rfl) ?_
    exact ww_lv [2] rfl (t_House_data_B15 C hR hRm hnL v2 (ch v0 9) (kc_House_9 _ ho_v0) σ h)
  · refine ww_aload_n C 0 rfl rfl (dq dk_House_data 2 rfl) ?_
    refine ww_getr C ko_House 10 ho_v0 (lt_ rfl) g_2_165 rfl rfl (dq dk_House_data 3 rfl) ?_
    refine ww_goto C 15 (dq dk_House_data 4 rfl) (by decide) ?_
    exact ww_lv [2] rfl (t_House_data_B15 C hR hRm hnL v2 (ch v0 10) (kc_House_10 _ ho_v0) σ h)
abbrev y_Mo_thrown : MethodName := ⟨"BundleHouseModel", "thrown", "()I"⟩
def dl_Mo_thrown : List (Nat × Instr × Nat) := [(0, .aload_n 0, 1), (1, .getfield 105, 3), (4, .ireturn, 1)]
set_option maxRecDepth 100000 in
theorem dk_Mo_thrown : ∀ q ∈ dl_Mo_thrown, decode prog_14_method_2_code q.1 = .ok q.2 := by decide +kernel
abbrev rm_Mo_thrown : Room := { frames := 0, cells := 0, slots := 0, locals := 0 }
theorem cw_Mo_thrown : CWV y_Mo_thrown prog_14_method_2_code 1 (some .int) 0 := ⟨⟨g_7_4, g_1_13, by decide, by decide, by decide +kernel⟩, g_7_2, g_7_3⟩
set_option maxHeartbeats 4000000 in
set_option maxRecDepth 100000 in
theorem c_Mo_thrown (v0 : Nat) (ho_v0 : kd v0 = 12) : MI y_Mo_thrown rm_Mo_thrown prog_14_method_2_code 1 .int (fun a => [.ref (a v0)]) (Mo_thrown v0) := by
  refine mi_of (by decide) (fun _ => le_ rfl) ?_
  intro k res σ C hR hRm hnL h
  unfold Mo_thrown at h
  show WW k 0 [(0, .ref (ad k v0))] [] σ
  refine ww_aload_n C 0 rfl rfl (dq dk_Mo_thrown 0 rfl) ?_
  refine ww_geti C ko_Mo 0 ho_v0 (lt_ rfl) g_6_50 rfl rfl (dq dk_Mo_thrown 1 rfl) ?_
  exact ww_iret C hR (dq dk_Mo_thrown 2 rfl) h
abbrev y_Mo_throwing : MethodName := ⟨"BundleHouseModel", "throwing", "(ZZ)Z"⟩
def dl_Mo_throwing : List (Nat × Instr × Nat) := [(0, .aload_n 0, 1), (1, .iload_n 1, 1), (2, .ifCond .eq 7, 3), (5, .iconst 1, 1), (6, .goto 12, 3), (9, .iload_n 2, 1), (10, .ifCond .eq 7, 3), (13, .iconst 2, 1), (14, .goto 4, 3), (17, .iconst 0, 1), (18, .putfield 105, 3), (21, .aload_n 0, 1), (22, .getfield 105, 3), (25, .ifCond .le 7, 3), (28, .iconst 1, 1), (29, .goto 4, 3), (32, .iconst 0, 1), (33, .ireturn, 1)]
set_option maxRecDepth 100000 in
theorem dk_Mo_throwing : ∀ q ∈ dl_Mo_throwing, decode prog_14_method_3_code q.1 = .ok q.2 := by decide +kernel
abbrev rm_Mo_throwing : Room := { frames := 0, cells := 0, slots := 0, locals := 0 }
theorem cw_Mo_throwing : CWV y_Mo_throwing prog_14_method_3_code 3 (some .boolean) 2 := ⟨⟨g_7_211, g_1_13, by decide, by decide, by decide +kernel⟩, g_7_210, gs_6_15⟩
set_option maxHeartbeats 4000000 in
set_option maxRecDepth 100000 in
theorem c_Mo_throwing (v0 : Nat) (ho_v0 : kd v0 = 12) (v1 : Int32) (v2 : Int32) : MI y_Mo_throwing rm_Mo_throwing prog_14_method_3_code 3 .boolean (fun a => [.ref (a v0), .int v1, .int v2]) (Mo_throwing v0 v1 v2) := by
  refine mi_of (by decide) (fun _ => le_ rfl) ?_
  intro k res σ C hR hRm hnL h
  unfold Mo_throwing at h
  show WW k 0 [(0, .ref (ad k v0)), (1, .int v1), (2, .int v2)] [] σ
  refine ww_aload_n C 0 rfl rfl (dq dk_Mo_throwing 0 rfl) ?_
  refine ww_iload_n C 1 rfl rfl (dq dk_Mo_throwing 1 rfl) ?_
  refine ww_if_eq C 9 (dq dk_Mo_throwing 2 rfl) (by decide) h (fun h => ?_) (fun h => ?_)
  · refine ww_iload_n C 2 rfl rfl (dq dk_Mo_throwing 5 rfl) ?_
    refine ww_if_eq C 17 (dq dk_Mo_throwing 6 rfl) (by decide) h (fun h => ?_) (fun h => ?_)
    · refine ww_iconst C (dq dk_Mo_throwing 9 rfl) ic_0 ?_
      refine ww_puti C ko_Mo 0 ho_v0 (lt_ rfl) g_6_50 rfl rfl rfl rfl (dq dk_Mo_throwing 10 rfl) h (fun σ1 h => ?_)
      refine ww_aload_n C 0 rfl rfl (dq dk_Mo_throwing 11 rfl) ?_
      refine ww_geti C ko_Mo 0 ho_v0 (lt_ rfl) g_6_50 rfl rfl (dq dk_Mo_throwing 12 rfl) ?_
      refine ww_if_le C 32 (dq dk_Mo_throwing 13 rfl) (by decide) h (fun h => ?_) (fun h => ?_)
      · refine ww_iconst C (dq dk_Mo_throwing 16 rfl) ic_0 ?_
        exact ww_zretL C hR (dq dk_Mo_throwing 17 rfl) (Or.inl rfl) h
      · refine ww_iconst C (dq dk_Mo_throwing 14 rfl) ic_1 ?_
        refine ww_goto C 33 (dq dk_Mo_throwing 15 rfl) (by decide) ?_
        exact ww_zretL C hR (dq dk_Mo_throwing 17 rfl) (Or.inr rfl) h
    · refine ww_iconst C (dq dk_Mo_throwing 7 rfl) ic_2 ?_
      refine ww_goto C 18 (dq dk_Mo_throwing 8 rfl) (by decide) ?_
      refine ww_puti C ko_Mo 0 ho_v0 (lt_ rfl) g_6_50 rfl rfl rfl rfl (dq dk_Mo_throwing 10 rfl) h (fun σ2 h => ?_)
      refine ww_aload_n C 0 rfl rfl (dq dk_Mo_throwing 11 rfl) ?_
      refine ww_geti C ko_Mo 0 ho_v0 (lt_ rfl) g_6_50 rfl rfl (dq dk_Mo_throwing 12 rfl) ?_
      refine ww_if_le C 32 (dq dk_Mo_throwing 13 rfl) (by decide) h (fun h => ?_) (fun h => ?_)
      · refine ww_iconst C (dq dk_Mo_throwing 16 rfl) ic_0 ?_
        exact ww_zretL C hR (dq dk_Mo_throwing 17 rfl) (Or.inl rfl) h
      · refine ww_iconst C (dq dk_Mo_throwing 14 rfl) ic_1 ?_
        refine ww_goto C 33 (dq dk_Mo_throwing 15 rfl) (by decide) ?_
        exact ww_zretL C hR (dq dk_Mo_throwing 17 rfl) (Or.inr rfl) h
  · refine ww_iconst C (dq dk_Mo_throwing 3 rfl) ic_1 ?_
    refine ww_goto C 18 (dq dk_Mo_throwing 4 rfl) (by decide) ?_
    refine ww_puti C ko_Mo 0 ho_v0 (lt_ rfl) g_6_50 rfl rfl rfl rfl (dq dk_Mo_throwing 10 rfl) h (fun σ3 h => ?_)
    refine ww_aload_n C 0 rfl rfl (dq dk_Mo_throwing 11 rfl) ?_
    refine ww_geti C ko_Mo 0 ho_v0 (lt_ rfl) g_6_50 rfl rfl (dq dk_Mo_throwing 12 rfl) ?_
    refine ww_if_le C 32 (dq dk_Mo_throwing 13 rfl) (by decide) h (fun h => ?_) (fun h => ?_)
    · refine ww_iconst C (dq dk_Mo_throwing 16 rfl) ic_0 ?_
      exact ww_zretL C hR (dq dk_Mo_throwing 17 rfl) (Or.inl rfl) h
    · refine ww_iconst C (dq dk_Mo_throwing 14 rfl) ic_1 ?_
      refine ww_goto C 33 (dq dk_Mo_throwing 15 rfl) (by decide) ?_
      exact ww_zretL C hR (dq dk_Mo_throwing 17 rfl) (Or.inr rfl) h
abbrev y_Mo_word : MethodName := ⟨"BundleHouseModel", "word", "(I)V"⟩
def dl_Mo_word : List (Nat × Instr × Nat) := [(0, .bipush 24, 2), (2, .istore_n 2, 1), (3, .iload_n 2, 1), (4, .ifCond .lt 35, 3), (7, .aload_n 0, 1), (8, .getfield 7, 3), (11, .aload_n 0, 1), (12, .getfield 108, 3), (15, .iload_n 1, 1), (16, .iload_n 2, 1), (17, .ishr, 1), (18, .sipush 255, 3), (21, .iand, 1), (22, .iastore, 1), (23, .aload_n 0, 1), (24, .dup, 1), (25, .getfield 108, 3), (28, .iconst 1, 1), (29, .iadd, 1), (30, .putfield 108, 3), (33, .iinc 2 (-8), 3), (36, .goto (-33), 3), (39, .return_, 1)]
set_option maxRecDepth 100000 in
theorem dk_Mo_word : ∀ q ∈ dl_Mo_word, decode prog_14_method_5_code q.1 = .ok q.2 := by decide +kernel
abbrev rm_Mo_word : Room := { frames := 0, cells := 0, slots := 0, locals := 0 }
theorem cw_Mo_word : CWV y_Mo_word prog_14_method_5_code 3 none 1 := ⟨⟨g_7_12, g_1_13, by decide, by decide, by decide +kernel⟩, g_7_11, gs_4_14⟩
set_option maxHeartbeats 4000000 in
set_option maxRecDepth 100000 in
theorem t_Mo_word_B3 {k : Cfg} {res : St} (C : Cx k prog_14_method_5_code "BundleHouseModel") (hR : RV k res) (hRm : k.2.2.2.1 = rm_Mo_word) (hnL : k.2.2.2.2.2.2.2.2.2.2.2.1 = 3) : ∀ (n : Nat) (v0 : Nat) (v1 : Int32) (v2 : Int32) (ho_v0 : kd v0 = 12) (σ : St), Mo_word_B3 n v0 v1 v2 σ = some res → WW k 3 [(0, .ref (ad k v0)), (1, .int v1), (2, .int v2)] [] σ := by
  intro n
  induction n with
  | zero =>
    intro v0 v1 v2 ho_v0 σ h
    have h : (none : Option (St)) = some res := h
    cases h
  | succ n ih =>
    intro v0 v1 v2 ho_v0 σ h
    unfold Mo_word_B3 at h
    refine ww_iload_n C 2 rfl rfl (dq dk_Mo_word 2 rfl) ?_
    refine ww_if_lt C 39 (dq dk_Mo_word 3 rfl) (by decide) h (fun h => ?_) (fun h => ?_)
    · exact ww_vret C hR (dq dk_Mo_word 22 rfl) h
    · refine ww_aload_n C 0 rfl rfl (dq dk_Mo_word 4 rfl) ?_
      refine ww_getr C ko_Mo 1 ho_v0 (lt_ rfl) g_6_51 rfl rfl (dq dk_Mo_word 5 rfl) ?_
      refine ww_aload_n C 0 rfl rfl (dq dk_Mo_word 6 rfl) ?_
      refine ww_geti C ko_Mo 2 ho_v0 (lt_ rfl) g_6_52 rfl rfl (dq dk_Mo_word 7 rfl) ?_
      refine ww_iload_n C 1 rfl rfl (dq dk_Mo_word 8 rfl) ?_
      refine ww_iload_n C 2 rfl rfl (dq dk_Mo_word 9 rfl) ?_
      refine ww_ishr C (dq dk_Mo_word 10 rfl) ?_
      refine ww_sipush C (dq dk_Mo_word 11 rfl) sp_255 ?_
      refine ww_iand C (dq dk_Mo_word 12 rfl) ?_
      refine ww_iast C (kc_Mo_1 _ ho_v0).1 (kc_Mo_1 _ ho_v0).2 (dq dk_Mo_word 13 rfl) h (fun σ1 h => ?_)
      refine ww_aload_n C 0 rfl rfl (dq dk_Mo_word 14 rfl) ?_
      refine ww_dup C rfl (dq dk_Mo_word 15 rfl) ?_
      refine ww_geti C ko_Mo 2 ho_v0 (lt_ rfl) g_6_52 rfl rfl (dq dk_Mo_word 16 rfl) ?_
      refine ww_iconst C (dq dk_Mo_word 17 rfl) ic_1 ?_
      refine ww_iadd C (dq dk_Mo_word 18 rfl) ?_
      refine ww_puti C ko_Mo 2 ho_v0 (lt_ rfl) g_6_52 rfl rfl rfl rfl (dq dk_Mo_word 19 rfl) h (fun σ2 h => ?_)
      refine ww_iinc C 2 (fun z => [(2, .int z), (0, .ref (ad k v0)), (1, .int v1)]) rfl ic_m8 hnL (lt_ rfl) (fun _ => rfl) (dq dk_Mo_word 20 rfl) h (fun x3 h => ?_)
      refine ww_goto C 3 (dq dk_Mo_word 21 rfl) (by decide) ?_
      exact ww_lv [1, 2, 0] rfl (ih v0 v1 x3 ho_v0 σ2 h)
set_option maxHeartbeats 4000000 in
set_option maxRecDepth 100000 in
theorem c_Mo_word (v0 : Nat) (ho_v0 : kd v0 = 12) (v1 : Int32) : MV y_Mo_word rm_Mo_word prog_14_method_5_code 3 (fun a => [.ref (a v0), .int v1]) (Mo_word v0 v1) := by
  refine mv_of (by decide) (fun _ => le_ rfl) ?_
  intro k res σ C hR hRm hnL h
  unfold Mo_word at h
  show WW k 0 [(0, .ref (ad k v0)), (1, .int v1)] [] σ
  refine ww_bipush C (dq dk_Mo_word 0 rfl) bp_24 ?_
  refine ww_istore_n C [(2, .int 24), (0, .ref (ad k v0)), (1, .int v1)] rfl hnL (lt_ rfl) rfl (dq dk_Mo_word 1 rfl) ?_
  exact ww_lv [1, 2, 0] rfl (t_Mo_word_B3 C hR hRm hnL FU v0 v1 24 ho_v0 σ h)
abbrev y_Mo_feed : MethodName := ⟨"BundleHouseModel", "feed", "(IIIII)Z"⟩
def dl_Mo_feed : List (Nat × Instr × Nat) := [(0, .aload_n 0, 1), (1, .iconst 0, 1), (2, .putfield 105, 3), (5, .aload_n 0, 1), (6, .getfield 108, 3), (9, .bipush 20, 2), (11, .iadd, 1), (12, .sipush 1100, 3), (15, .if_icmp .le 5, 3), (18, .iconst 0, 1), (19, .ireturn, 1), (20, .aload_n 0, 1), (21, .iload_n 1, 1), (22, .invokevirtual 111, 3), (25, .aload_n 0, 1), (26, .iload_n 2, 1), (27, .invokevirtual 111, 3), (30, .aload_n 0, 1), (31, .iload_n 3, 1), (32, .invokevirtual 111, 3), (35, .aload_n 0, 1), (36, .iload 4, 2), (38, .invokevirtual 111, 3), (41, .aload_n 0, 1), (42, .iload 5, 2), (44, .invokevirtual 111, 3), (47, .iconst 1, 1), (48, .ireturn, 1)]
set_option maxRecDepth 100000 in
theorem dk_Mo_feed : ∀ q ∈ dl_Mo_feed, decode prog_14_method_4_code q.1 = .ok q.2 := by decide +kernel
abbrev rm_Mo_feed : Room := { frames := 1, cells := 0, slots := 0, locals := 22 }
theorem cw_Mo_feed : CWV y_Mo_feed prog_14_method_4_code 6 (some .boolean) 5 := ⟨⟨g_7_8, g_1_13, by decide, by decide, by decide +kernel⟩, g_7_6, g_7_7⟩
set_option maxHeartbeats 4000000 in
set_option maxRecDepth 100000 in
theorem c_Mo_feed (v0 : Nat) (ho_v0 : kd v0 = 12) (v1 : Int32) (v2 : Int32) (v3 : Int32) (v4 : Int32) (v5 : Int32) : MI y_Mo_feed rm_Mo_feed prog_14_method_4_code 6 .boolean (fun a => [.ref (a v0), .int v1, .int v2, .int v3, .int v4, .int v5]) (Mo_feed v0 v1 v2 v3 v4 v5) := by
  refine mi_of (by decide) (fun _ => le_ rfl) ?_
  intro k res σ C hR hRm hnL h
  unfold Mo_feed at h
  show WW k 0 [(0, .ref (ad k v0)), (1, .int v1), (2, .int v2), (3, .int v3), (4, .int v4), (5, .int v5)] [] σ
  refine ww_aload_n C 0 rfl rfl (dq dk_Mo_feed 0 rfl) ?_
  refine ww_iconst C (dq dk_Mo_feed 1 rfl) ic_0 ?_
  refine ww_puti C ko_Mo 0 ho_v0 (lt_ rfl) g_6_50 rfl rfl rfl rfl (dq dk_Mo_feed 2 rfl) h (fun σ1 h => ?_)
  refine ww_aload_n C 0 rfl rfl (dq dk_Mo_feed 3 rfl) ?_
  refine ww_geti C ko_Mo 2 ho_v0 (lt_ rfl) g_6_52 rfl rfl (dq dk_Mo_feed 4 rfl) ?_
  refine ww_bipush C (dq dk_Mo_feed 5 rfl) bp_20 ?_
  refine ww_iadd C (dq dk_Mo_feed 6 rfl) ?_
  refine ww_sipush C (dq dk_Mo_feed 7 rfl) sp_1100 ?_
  refine ww_icmp_le C 20 (dq dk_Mo_feed 8 rfl) (by decide) h (fun h => ?_) (fun h => ?_)
  · refine ww_aload_n C 0 rfl rfl (dq dk_Mo_feed 11 rfl) ?_
    refine ww_iload_n C 1 rfl rfl (dq dk_Mo_feed 12 rfl) ?_
    refine ww_cVv (st := []) C (c_Mo_word v0 ho_v0 v1) cw_Mo_word ho_v0 (lt_ rfl) rfl g_7_9 hRm ⟨⟨rfl, rfl⟩, le_ rfl, le_ rfl⟩ rfl rfl rfl (le_ rfl) (dq dk_Mo_feed 13 rfl) h (fun σ2 h => ?_)
    refine ww_aload_n C 0 rfl rfl (dq dk_Mo_feed 14 rfl) ?_
    refine ww_iload_n C 2 rfl rfl (dq dk_Mo_feed 15 rfl) ?_
    refine ww_cVv (st := []) C (c_Mo_word v0 ho_v0 v2) cw_Mo_word ho_v0 (lt_ rfl) rfl g_7_9 hRm ⟨⟨rfl, rfl⟩, le_ rfl, le_ rfl⟩ rfl rfl rfl (le_ rfl) (dq dk_Mo_feed 16 rfl) h (fun σ3 h => ?_)
    refine ww_aload_n C 0 rfl rfl (dq dk_Mo_feed 17 rfl) ?_
    refine ww_iload_n C 3 rfl rfl (dq dk_Mo_feed 18 rfl) ?_
    refine ww_cVv (st := []) C (c_Mo_word v0 ho_v0 v3) cw_Mo_word ho_v0 (lt_ rfl) rfl g_7_9 hRm ⟨⟨rfl, rfl⟩, le_ rfl, le_ rfl⟩ rfl rfl rfl (le_ rfl) (dq dk_Mo_feed 19 rfl) h (fun σ4 h => ?_)
    refine ww_aload_n C 0 rfl rfl (dq dk_Mo_feed 20 rfl) ?_
    refine ww_iload C 4 rfl (dq dk_Mo_feed 21 rfl) ?_
    refine ww_cVv (st := []) C (c_Mo_word v0 ho_v0 v4) cw_Mo_word ho_v0 (lt_ rfl) rfl g_7_9 hRm ⟨⟨rfl, rfl⟩, le_ rfl, le_ rfl⟩ rfl rfl rfl (le_ rfl) (dq dk_Mo_feed 22 rfl) h (fun σ5 h => ?_)
    refine ww_aload_n C 0 rfl rfl (dq dk_Mo_feed 23 rfl) ?_
    refine ww_iload C 5 rfl (dq dk_Mo_feed 24 rfl) ?_
    refine ww_cVv (st := []) C (c_Mo_word v0 ho_v0 v5) cw_Mo_word ho_v0 (lt_ rfl) rfl g_7_9 hRm ⟨⟨rfl, rfl⟩, le_ rfl, le_ rfl⟩ rfl rfl rfl (le_ rfl) (dq dk_Mo_feed 25 rfl) h (fun σ6 h => ?_)
    refine ww_iconst C (dq dk_Mo_feed 26 rfl) ic_1 ?_
    exact ww_zretL C hR (dq dk_Mo_feed 27 rfl) (Or.inr rfl) h
  · refine ww_iconst C (dq dk_Mo_feed 9 rfl) ic_0 ?_
    exact ww_zretL C hR (dq dk_Mo_feed 10 rfl) (Or.inl rfl) h
abbrev y_Mo_end : MethodName := ⟨"BundleHouseModel", "end", "(I)Z"⟩
def dl_Mo_end : List (Nat × Instr × Nat) := [(0, .aload_n 0, 1), (1, .iconst 0, 1), (2, .putfield 105, 3), (5, .iload_n 1, 1), (6, .ifCond .lt 11, 3), (9, .iload_n 1, 1), (10, .aload_n 0, 1), (11, .getfield 108, 3), (14, .if_icmp .le 5, 3), (17, .iconst 0, 1), (18, .ireturn, 1), (19, .aload_n 0, 1), (20, .iload_n 1, 1), (21, .putfield 108, 3), (24, .iconst 1, 1), (25, .ireturn, 1)]
set_option maxRecDepth 100000 in
theorem dk_Mo_end : ∀ q ∈ dl_Mo_end, decode prog_14_method_6_code q.1 = .ok q.2 := by decide +kernel
abbrev rm_Mo_end : Room := { frames := 0, cells := 0, slots := 0, locals := 0 }
theorem cw_Mo_end : CWV y_Mo_end prog_14_method_6_code 2 (some .boolean) 1 := ⟨⟨g_7_16, g_1_13, by decide, by decide, by decide +kernel⟩, g_7_14, g_7_15⟩
set_option maxHeartbeats 4000000 in
set_option maxRecDepth 100000 in
theorem c_Mo_end (v0 : Nat) (ho_v0 : kd v0 = 12) (v1 : Int32) : MI y_Mo_end rm_Mo_end prog_14_method_6_code 2 .boolean (fun a => [.ref (a v0), .int v1]) (Mo_end v0 v1) := by
  refine mi_of (by decide) (fun _ => le_ rfl) ?_
  intro k res σ C hR hRm hnL h
  unfold Mo_end at h
  show WW k 0 [(0, .ref (ad k v0)), (1, .int v1)] [] σ
  refine ww_aload_n C 0 rfl rfl (dq dk_Mo_end 0 rfl) ?_
  refine ww_iconst C (dq dk_Mo_end 1 rfl) ic_0 ?_
  refine ww_puti C ko_Mo 0 ho_v0 (lt_ rfl) g_6_50 rfl rfl rfl rfl (dq dk_Mo_end 2 rfl) h (fun σ1 h => ?_)
  refine ww_iload_n C 1 rfl rfl (dq dk_Mo_end 3 rfl) ?_
  refine ww_if_lt C 17 (dq dk_Mo_end 4 rfl) (by decide) h (fun h => ?_) (fun h => ?_)
  · refine ww_iconst C (dq dk_Mo_end 9 rfl) ic_0 ?_
    exact ww_zretL C hR (dq dk_Mo_end 10 rfl) (Or.inl rfl) h
  · refine ww_iload_n C 1 rfl rfl (dq dk_Mo_end 5 rfl) ?_
    refine ww_aload_n C 0 rfl rfl (dq dk_Mo_end 6 rfl) ?_
    refine ww_geti C ko_Mo 2 ho_v0 (lt_ rfl) g_6_52 rfl rfl (dq dk_Mo_end 7 rfl) ?_
    refine ww_icmp_le C 19 (dq dk_Mo_end 8 rfl) (by decide) h (fun h => ?_) (fun h => ?_)
    · refine ww_aload_n C 0 rfl rfl (dq dk_Mo_end 11 rfl) ?_
      refine ww_iload_n C 1 rfl rfl (dq dk_Mo_end 12 rfl) ?_
      refine ww_puti C ko_Mo 2 ho_v0 (lt_ rfl) g_6_52 rfl rfl rfl rfl (dq dk_Mo_end 13 rfl) h (fun σ2 h => ?_)
      refine ww_iconst C (dq dk_Mo_end 14 rfl) ic_1 ?_
      exact ww_zretL C hR (dq dk_Mo_end 15 rfl) (Or.inr rfl) h
    · refine ww_iconst C (dq dk_Mo_end 9 rfl) ic_0 ?_
      exact ww_zretL C hR (dq dk_Mo_end 10 rfl) (Or.inl rfl) h
