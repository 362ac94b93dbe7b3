def House_decoded (v0 : Nat) (v1 : Int32) (v2 : Int32) (σ : St) : Option ((Nat × Int32) × St) :=
  if v2 < 0 then
    some ((1, 0), σ)
  else
    if v2 ≤ 7 then
      cl (Reader_read (ch v0 4) v1 σ) fun x2 σ1 =>
      if ¬ x2 = 0 then
        if ¬ v2 = 7 then
          cl (Instruction_part (ch (ch v0 4) 0) v2 σ1) fun x4 σ3 =>
          some ((0, x4), σ3)
        else
          cl (Strip_markAt (ch v0 2) v1 σ1) fun x6 σ5 =>
          some ((0, x6), σ5)
      else
        some ((1, 0), σ1)
    else
      some ((1, 0), σ)
def House_output_B15 (v2 : Int32) (t0 : Nat) (σ : St) : Option ((Nat × Int32) × St) :=
  if (σ t0 6) = 0 then
    some ((1, 0), σ)
  else
    cl (Machine_hasOutput t0 v2 σ) fun x2 σ1 =>
    if ¬ x2 = 0 then
      cl (Machine_outputAt t0 v2 σ1) fun x4 σ3 =>
      some ((0, x4), σ3)
    else
      some ((1, 0), σ1)
def House_output (v0 : Nat) (v1 : Int32) (v2 : Int32) (σ : St) : Option ((Nat × Int32) × St) :=
  if v1 = 0 then
    House_output_B15 v2 (ch v0 9) σ
  else
    House_output_B15 v2 (ch v0 10) σ
def House_run (v0 : Nat) (v1 : Int32) (σ : St) : Option ((Nat × Int32) × St) :=
  if ¬ (σ (ch v0 2) 2) = 0 then
    if v1 < 1 then
      some ((3, 0), σ)
    else
      if v1 ≤ 5000 then
        cv (Machine_beginAs (ch v0 9) (ch v0 8) σ) fun σ1 =>
        cl (Runner_goOn (ch v0 11) v1 σ1) fun x3 σ2 =>
        some ((0, x3), σ2)
      else
        some ((3, 0), σ)
  else
    some ((2, 0), σ)
def House_state_B15 (v2 : Int32) (t0 : Nat) (σ : St) : Option ((Nat × Int32) × St) :=
  if (σ t0 6) = 0 then
    some ((1, 0), σ)
  else
    if v2 < 0 then
      some ((1, 0), σ)
    else
      if v2 ≤ 17 then
        cl (Machine_part t0 v2 σ) fun x2 σ1 =>
        some ((0, x2), σ1)
      else
        some ((1, 0), σ)
def House_state (v0 : Nat) (v1 : Int32) (v2 : Int32) (σ : St) : Option ((Nat × Int32) × St) :=
  if v1 = 0 then
    House_state_B15 v2 (ch v0 9) σ
  else
    House_state_B15 v2 (ch v0 10) σ
def House_walk (v0 : Nat) (v1 : Int32) (σ : St) : Option ((Nat × Int32) × St) :=
  if ¬ (σ v0 13) = 0 then
    if v1 < 1 then
      some ((3, 0), σ)
    else
      if v1 ≤ 5000 then
        cv (Machine_beginAs (ch v0 10) (ch v0 8) σ) fun σ1 =>
        cl (Walker_goOn (ch v0 12) v1 σ1) fun x3 σ2 =>
        some ((0, x3), σ2)
      else
        some ((3, 0), σ)
  else
    some ((2, 0), σ)
abbrev y_House_decoded : MethodName := ⟨"BundleHouse", "decoded", "(II)I"⟩
def dl_House_decoded : List (Nat × Instr × Nat) := [(0, .iload_n 2, 1), (1, .ifCond .lt 9, 3), (4, .iload_n 2, 1), (5, .bipush 7, 2), (7, .if_icmp .le 13, 3), (10, .new 154, 3), (13, .dup, 1), (14, .ldc 156, 2), (16, .invokespecial 158, 3), (19, .athrow, 1), (20, .aload_n 0, 1), (21, .getfield 34, 3), (24, .iload_n 1, 1), (25, .invokevirtual 161, 3), (28, .ifCond .ne 13, 3), (31, .new 154, 3), (34, .dup, 1), (35, .ldc 165, 2), (37, .invokespecial 158, 3), (40, .athrow, 1), (41, .iload_n 2, 1), (42, .bipush 7, 2), (44, .if_icmp .ne 14, 3), (47, .aload_n 0, 1), (48, .getfield 25, 3), (51, .iload_n 1, 1), (52, .invokevirtual 167, 3), (55, .goto 14, 3), (58, .aload_n 0, 1), (59, .getfield 34, 3), (62, .getfield 170, 3), (65, .iload_n 2, 1), (66, .invokevirtual 174, 3), (69, .ireturn, 1)]
set_option maxRecDepth 100000 in
theorem dk_House_decoded : ∀ q ∈ dl_House_decoded, decode prog_1_method_12_code q.1 = .ok q.2 := by decide +kernel
abbrev rm_House_decoded : Room := { frames := 7, cells := 1, slots := 6, locals := 100 }
theorem cw_House_decoded : CWV y_House_decoded prog_1_method_12_code 3 (some .int) 2 := ⟨⟨g_4_162, g_1_1, by decide, by decide, by decide +kernel⟩, g_4_160, g_4_161⟩
set_option maxHeartbeats 4000000 in
set_option maxRecDepth 100000 in
theorem c_House_decoded (v0 : Nat) (ho_v0 : kd v0 = 0) (v1 : Int32) (v2 : Int32) : MT y_House_decoded rm_House_decoded prog_1_method_12_code 3 (fun a => [.ref (a v0), .int v1, .int v2]) (House_decoded v0 v1 v2) := by
  refine mt_of (by decide) (fun _ => le_ rfl) ?_
  intro k res σ C hR hRm hnL h
  unfold House_decoded at h
  show WW k 0 [(0, .ref (ad k v0)), (1, .int v1), (2, .int v2)] [] σ
  refine ww_iload_n C 2 rfl rfl (dq dk_House_decoded 0 rfl) ?_
  refine ww_if_lt C 10 (dq dk_House_decoded 1 rfl) (by decide) h (fun h => ?_) (fun h => ?_)
  · exact ww_throw C hR 1 (by decide) (by decide +kernel) g_4_163 g_4_164 g_1_19 th_TA th_TS th_A_1_158 g_4_207 th_chain_1 (List.mem_of_getElem? (i := 0) rfl) (by rw [hRm]; exact ⟨le_ rfl, le_ rfl, lt_ rfl, le_ rfl⟩) (dq dk_House_decoded 5 rfl) (dq dk_House_decoded 6 rfl) (dq dk_House_decoded 7 rfl) (dq dk_House_decoded 8 rfl) (dq dk_House_decoded 9 rfl) h
  · refine ww_iload_n C 2 rfl rfl (dq dk_House_decoded 2 rfl) ?_
    refine ww_bipush C (dq dk_House_decoded 3 rfl) bp_7 ?_
    refine ww_icmp_le C 20 (dq dk_House_decoded 4 rfl) (by decide) h (fun h => ?_) (fun h => ?_)
    · refine ww_aload_n C 0 rfl rfl (dq dk_House_decoded 10 rfl) ?_
      refine ww_getr C ko_House 4 ho_v0 (lt_ rfl) g_2_159 rfl rfl (dq dk_House_decoded 11 rfl) ?_
      refine ww_iload_n C 1 rfl rfl (dq dk_House_decoded 12 rfl) ?_
      refine ww_cVi (st := []) C (c_Reader_read (ch v0 4) (kc_House_4 _ ho_v0) v1) cw_Reader_read (kc_House_4 _ ho_v0) (lt_ rfl) rfl g_4_231 hRm ⟨⟨rfl, rfl⟩, le_ rfl, le_ rfl⟩ rfl rfl rfl (le_ rfl) (dq dk_House_decoded 13 rfl) h (fun x2 σ1 h => ?_)
      refine ww_if_ne C 41 (dq dk_House_decoded 14 rfl) (by decide) h (fun h => ?_) (fun h => ?_)
      · refine ww_iload_n C 2 rfl rfl (dq dk_House_decoded 20 rfl) ?_
        refine ww_bipush C (dq dk_House_decoded 21 rfl) bp_7 ?_
        refine ww_icmp_ne C 58 (dq dk_House_decoded 22 rfl) (by decide) h (fun h => ?_) (fun h => ?_)
        · refine ww_aload_n C 0 rfl rfl (dq dk_House_decoded 28 rfl) ?_
          refine ww_getr C ko_House 4 ho_v0 (lt_ rfl) g_2_159 rfl rfl (dq dk_House_decoded 29 rfl) ?_
          refine ww_getr C ko_Reader 0 (kc_House_4 _ ho_v0) (lt_ rfl) g_1_125 rfl rfl (dq dk_House_decoded 30 rfl) ?_
          refine ww_iload_n C 2 rfl rfl (dq dk_House_decoded 31 rfl) ?_
          refine ww_cVi (st := []) C (c_Instruction_part (ch (ch v0 4) 0) (kc_Reader_0 _ (kc_House_4 _ ho_v0)) v2) cw_Instruction_part (kc_Reader_0 _ (kc_House_4 _ ho_v0)) (lt_ rfl) rfl g_4_234 hRm ⟨⟨rfl, rfl⟩, le_ rfl, le_ rfl⟩ rfl rfl rfl (le_ rfl) (dq dk_House_decoded 32 rfl) h (fun x4 σ3 h => ?_)
          exact ww_iretT C hR (dq dk_House_decoded 33 rfl) h
        · refine ww_aload_n C 0 rfl rfl (dq dk_House_decoded 23 rfl) ?_
          refine ww_getr C ko_House 2 ho_v0 (lt_ rfl) g_2_157 rfl rfl (dq dk_House_decoded 24 rfl) ?_
          refine ww_iload_n C 1 rfl rfl (dq dk_House_decoded 25 rfl) ?_
          refine ww_cVi (st := []) C (c_Strip_markAt (ch v0 2) (kc_House_2 _ ho_v0) v1) cw_Strip_markAt (kc_House_2 _ ho_v0) (lt_ rfl) rfl g_4_233 hRm ⟨⟨rfl, rfl⟩, le_ rfl, le_ rfl⟩ rfl rfl rfl (le_ rfl) (dq dk_House_decoded 26 rfl) h (fun x6 σ5 h => ?_)
          refine ww_goto C 69 (dq dk_House_decoded 27 rfl) (by decide) ?_
          exact ww_iretT C hR (dq dk_House_decoded 33 rfl) h
      · exact ww_throw C hR 1 (by decide) (by decide +kernel) g_4_163 g_4_164 g_1_19 th_TA th_TS th_A_1_158 g_4_207 th_chain_1 (List.mem_of_getElem? (i := 1) rfl) (by rw [hRm]; exact ⟨le_ rfl, le_ rfl, lt_ rfl, le_ rfl⟩) (dq dk_House_decoded 15 rfl) (dq dk_House_decoded 16 rfl) (dq dk_House_decoded 17 rfl) (dq dk_House_decoded 18 rfl) (dq dk_House_decoded 19 rfl) h
    · exact ww_throw C hR 1 (by decide) (by decide +kernel) g_4_163 g_4_164 g_1_19 th_TA th_TS th_A_1_158 g_4_207 th_chain_1 (List.mem_of_getElem? (i := 0) rfl) (by rw [hRm]; exact ⟨le_ rfl, le_ rfl, lt_ rfl, le_ rfl⟩) (dq dk_House_decoded 5 rfl) (dq dk_House_decoded 6 rfl) (dq dk_House_decoded 7 rfl) (dq dk_House_decoded 8 rfl) (dq dk_House_decoded 9 rfl) h
abbrev y_House_output : MethodName := ⟨"BundleHouse", "output", "(ZI)I"⟩
def dl_House_output : List (Nat × Instr × Nat) := [(0, .iload_n 1, 1), (1, .ifCond .eq 10, 3), (4, .aload_n 0, 1), (5, .getfield 67, 3), (8, .goto 7, 3), (11, .aload_n 0, 1), (12, .getfield 64, 3), (15, .astore_n 3, 1), (16, .aload_n 3, 1), (17, .getfield 224, 3), (20, .ifCond .eq 11, 3), (23, .aload_n 3, 1), (24, .iload_n 2, 1), (25, .invokevirtual 231, 3), (28, .ifCond .ne 13, 3), (31, .new 154, 3), (34, .dup, 1), (35, .ldc 234, 2), (37, .invokespecial 158, 3), (40, .athrow, 1), (41, .aload_n 3, 1), (42, .iload_n 2, 1), (43, .invokevirtual 236, 3), (46, .ireturn, 1)]
set_option maxRecDepth 100000 in
theorem dk_House_output : ∀ q ∈ dl_House_output, decode prog_1_method_19_code q.1 = .ok q.2 := by decide +kernel
abbrev rm_House_output : Room := { frames := 7, cells := 1, slots := 6, locals := 100 }
theorem cw_House_output : CWV y_House_output prog_1_method_19_code 4 (some .int) 2 := ⟨⟨g_6_33, g_1_1, by decide, by decide, by decide +kernel⟩, g_6_31, g_6_32⟩
set_option maxHeartbeats 4000000 in
set_option maxRecDepth 100000 in
theorem t_House_output_B15 {k : Cfg} {res : (Nat × Int32) × St} (C : Cx k prog_1_method_19_code "BundleHouse") (hR : RT k res) (hRm : k.2.2.2.1 = rm_House_output) (hnL : k.2.2.2.2.2.2.2.2.2.2.2.1 = 4) (v2 : Int32) (t0 : Nat) (ho_t0 : kd t0 = 8) (σ : St) (h : House_output_B15 v2 t0 σ = some res) : WW k 15 [(2, .int v2)] [.ref (ad k t0)] σ := by
  unfold House_output_B15 at h
  refine ww_astore_n C [(3, .ref (ad k t0)), (2, .int v2)] rfl hnL (lt_ rfl) rfl (dq dk_House_output 7 rfl) ?_
  refine ww_aload_n C 0 rfl rfl (dq dk_House_output 8 rfl) ?_
  refine ww_geti C ko_Machine 6 ho_t0 (lt_ rfl) g_2_81 rfl rfl (dq dk_House_output 9 rfl) ?_
  refine ww_if_eq C 31 (dq dk_House_output 10 rfl) (by decide) h (fun h => ?_) (fun h => ?_)
  · exact ww_throw C hR 1 (by decide) (by decide +kernel) g_4_163 g_4_164 g_1_19 th_TA th_TS th_A_1_158 g_4_207 th_chain_1 (List.mem_of_getElem? (i := 6) rfl) (by rw [hRm]; exact ⟨le_ rfl, le_ rfl, lt_ rfl, le_ rfl⟩) (dq dk_House_output 15 rfl) (dq dk_House_output 16 rfl) (dq dk_House_output 17 rfl) (dq dk_House_output 18 rfl) (dq dk_House_output 19 rfl) h
  · refine ww_aload_n C 0 rfl rfl (dq dk_House_output 11 rfl) ?_
    refine ww_iload_n C 1 rfl rfl (dq dk_House_output 12 rfl) ?_
    refine ww_cVi (st := []) C (c_Machine_hasOutput t0 ho_t0 v2) cw_Machine_hasOutput ho_t0 (lt_ rfl) rfl g_6_34 hRm ⟨⟨rfl, rfl⟩, le_ rfl, le_ rfl⟩ rfl rfl rfl (le_ rfl) (dq dk_House_output 13 rfl) h (fun x2 σ1 h => ?_)
    refine ww_if_ne C 41 (dq dk_House_output 14 rfl) (by decide) h (fun h => ?_) (fun h => ?_)
    · refine ww_aload_n C 0 rfl rfl (dq dk_House_output 20 rfl) ?_
      refine ww_iload_n C 1 rfl rfl (dq dk_House_output 21 rfl) ?_
      refine ww_cVi (st := []) C (c_Machine_outputAt t0 ho_t0 v2) cw_Machine_outputAt ho_t0 (lt_ rfl) rfl g_6_39 hRm ⟨⟨rfl, rfl⟩, le_ rfl, le_ rfl⟩ rfl rfl rfl (le_ rfl) (dq dk_House_output 22 rfl) h (fun x4 σ3 h => ?_)
      exact ww_iretT C hR (dq dk_House_output 23 rfl) h
    · exact ww_throw C hR 1 (by decide) (by decide +kernel) g_4_163 g_4_164 g_1_19 th_TA th_TS th_A_1_158 g_4_207 th_chain_1 (List.mem_of_getElem? (i := 6) rfl) (by rw [hRm]; exact ⟨le_ rfl, le_ rfl, lt_ rfl, le_ rfl⟩) (dq dk_House_output 15 rfl) (dq dk_House_output 16 rfl) (dq dk_House_output 17 rfl) (dq dk_House_output 18 rfl) (dq dk_House_output 19 rfl) h
set_option maxHeartbeats 4000000 in
set_option maxRecDepth 100000 in
theorem c_House_output (v0 : Nat) (ho_v0 : kd v0 = 0) (v1 : Int32) (v2 : Int32) : MT y_House_output rm_House_output prog_1_method_19_code 4 (fun a => [.ref (a v0), .int v1, .int v2]) (House_output v0 v1 v2) := by
  refine mt_of (by decide) (fun _ => le_ rfl) ?_
  intro k res σ C hR hRm hnL h
  unfold House_output at h
  show WW k 0 [(0, .ref (ad k v0)), (1, .int v1), (2, .int v2)] [] σ
  refine ww_iload_n C 1 rfl rfl (dq dk_House_output 0 rfl) ?_
  refine ww_if_eq C 11 (dq dk_House_output 1 rfl) (by decide) h (fun h => ?_) (fun h => ?_)
  · refine ww_aload_n C 0 rfl rfl (dq dk_House_output 5 rfl) ?_
    refine ww_getr C ko_House 9 ho_v0 (lt_ rfl) g_2_164 rfl rfl (dq dk_House_output 6 rfl) ?_
    exact ww_lv [2] rfl (t_House_output_B15 C hR hRm hnL v2 (ch v0 9) (kc_House_9 _ ho_v0) σ h)
  · refine ww_aload_n C 0 rfl rfl (dq dk_House_output 2 rfl) ?_
    refine ww_getr C ko_House 10 ho_v0 (lt_ rfl) g_2_165 rfl rfl (dq dk_House_output 3 rfl) ?_
    refine ww_goto C 15 (dq dk_House_output 4 rfl) (by decide) ?_
    exact ww_lv [2] rfl (t_House_output_B15 C hR hRm hnL v2 (ch v0 10) (kc_House_10 _ ho_v0) σ h)
abbrev y_House_run : MethodName := ⟨"BundleHouse", "run", "(I)I"⟩
def dl_House_run : List (Nat × Instr × Nat) := [(0, .aload_n 0, 1), (1, .getfield 25, 3), (4, .getfield 92, 3), (7, .ifCond .ne 13, 3), (10, .new 204, 3), (13, .dup, 1), (14, .ldc 206, 2), (16, .invokespecial 208, 3), (19, .athrow, 1), (20, .iload_n 1, 1), (21, .iconst 1, 1), (22, .if_icmp .lt 10, 3), (25, .iload_n 1, 1), (26, .sipush 5000, 3), (29, .if_icmp .le 13, 3), (32, .new 209, 3), (35, .dup, 1), (36, .ldc 211, 2), (38, .invokespecial 213, 3), (41, .athrow, 1), (42, .aload_n 0, 1), (43, .getfield 64, 3), (46, .aload_n 0, 1), (47, .getfield 60, 3), (50, .invokevirtual 214, 3), (53, .aload_n 0, 1), (54, .getfield 75, 3), (57, .iload_n 1, 1), (58, .invokevirtual 218, 3), (61, .ireturn, 1)]
set_option maxRecDepth 100000 in
theorem dk_House_run : ∀ q ∈ dl_House_run, decode prog_1_method_15_code q.1 = .ok q.2 := by decide +kernel
abbrev rm_House_run : Room := { frames := 7, cells := 1, slots := 6, locals := 140 }
theorem cw_House_run : CWV y_House_run prog_1_method_15_code 2 (some .int) 1 := ⟨⟨g_5_6, g_1_1, by decide, by decide, by decide +kernel⟩, g_5_4, g_5_5⟩
set_option maxHeartbeats 4000000 in
set_option maxRecDepth 100000 in
theorem c_House_run (v0 : Nat) (ho_v0 : kd v0 = 0) (v1 : Int32) : MT y_House_run rm_House_run prog_1_method_15_code 2 (fun a => [.ref (a v0), .int v1]) (House_run v0 v1) := by
  refine mt_of (by decide) (fun _ => le_ rfl) ?_
  intro k res σ C hR hRm hnL h
  unfold House_run at h
  show WW k 0 [(0, .ref (ad k v0)), (1, .int v1)] [] σ
  refine ww_aload_n C 0 rfl rfl (dq dk_House_run 0 rfl) ?_
  refine ww_getr C ko_House 2 ho_v0 (lt_ rfl) g_2_157 rfl rfl (dq dk_House_run 1 rfl) ?_
  refine ww_geti C ko_Strip 2 (kc_House_2 _ ho_v0) (lt_ rfl) g_1_39 rfl rfl (dq dk_House_run 2 rfl) ?_
  refine ww_if_ne C 20 (dq dk_House_run 3 rfl) (by decide) h (fun h => ?_) (fun h => ?_)
  · refine ww_iload_n C 1 rfl rfl (dq dk_House_run 9 rfl) ?_
    refine ww_iconst C (dq dk_House_run 10 rfl) ic_1 ?_
    refine ww_icmp_lt C 32 (dq dk_House_run 11 rfl) (by decide) h (fun h => ?_) (fun h => ?_)
    · exact ww_throw C hR 3 (by decide) (by decide +kernel) g_5_23 g_5_24 g_1_21 th_TA th_TS th_A_3_213 g_5_35 th_chain_3 (List.mem_of_getElem? (i := 3) rfl) (by rw [hRm]; exact ⟨le_ rfl, le_ rfl, lt_ rfl, le_ rfl⟩) (dq dk_House_run 15 rfl) (dq dk_House_run 16 rfl) (dq dk_House_run 17 rfl) (dq dk_House_run 18 rfl) (dq dk_House_run 19 rfl) h
    · refine ww_iload_n C 1 rfl rfl (dq dk_House_run 12 rfl) ?_
      refine ww_sipush C (dq dk_House_run 13 rfl) sp_5000 ?_
      refine ww_icmp_le C 42 (dq dk_House_run 14 rfl) (by decide) h (fun h => ?_) (fun h => ?_)
      · refine ww_aload_n C 0 rfl rfl (dq dk_House_run 20 rfl) ?_
        refine ww_getr C ko_House 9 ho_v0 (lt_ rfl) g_2_164 rfl rfl (dq dk_House_run 21 rfl) ?_
        refine ww_aload_n C 0 rfl rfl (dq dk_House_run 22 rfl) ?_
        refine ww_getr C ko_House 8 ho_v0 (lt_ rfl) g_2_163 rfl rfl (dq dk_House_run 23 rfl) ?_
        refine ww_cVv (st := []) C (c_Machine_beginAs (ch v0 9) (kc_House_9 _ ho_v0) (ch v0 8) (kc_House_8 _ ho_v0)) cw_Machine_beginAs (kc_House_9 _ ho_v0) (lt_ rfl) rfl g_5_39 hRm ⟨⟨rfl, rfl⟩, le_ rfl, le_ rfl⟩ rfl rfl rfl (le_ rfl) (dq dk_House_run 24 rfl) h (fun σ1 h => ?_)
        refine ww_aload_n C 0 rfl rfl (dq dk_House_run 25 rfl) ?_
        refine ww_getr C ko_House 11 ho_v0 (lt_ rfl) g_2_166 rfl rfl (dq dk_House_run 26 rfl) ?_
        refine ww_iload_n C 1 rfl rfl (dq dk_House_run 27 rfl) ?_
        refine ww_cVi (st := []) C (c_Runner_goOn (ch v0 11) (kc_House_11 _ ho_v0) v1) cw_Runner_goOn (kc_House_11 _ ho_v0) (lt_ rfl) rfl g_5_48 hRm ⟨⟨rfl, rfl⟩, le_ rfl, le_ rfl⟩ rfl rfl rfl (le_ rfl) (dq dk_House_run 28 rfl) h (fun x3 σ2 h => ?_)
        exact ww_iretT C hR (dq dk_House_run 29 rfl) h
      · exact ww_throw C hR 3 (by decide) (by decide +kernel) g_5_23 g_5_24 g_1_21 th_TA th_TS th_A_3_213 g_5_35 th_chain_3 (List.mem_of_getElem? (i := 3) rfl) (by rw [hRm]; exact ⟨le_ rfl, le_ rfl, lt_ rfl, le_ rfl⟩) (dq dk_House_run 15 rfl) (dq dk_House_run 16 rfl) (dq dk_House_run 17 rfl) (dq dk_House_run 18 rfl) (dq dk_House_run 19 rfl) h
  · exact ww_throw C hR 2 (by decide) (by decide +kernel) g_5_7 g_5_8 g_1_20 th_TA th_TS th_A_2_208 g_5_19 th_chain_2 (List.mem_of_getElem? (i := 2) rfl) (by rw [hRm]; exact ⟨le_ rfl, le_ rfl, lt_ rfl, le_ rfl⟩) (dq dk_House_run 4 rfl) (dq dk_House_run 5 rfl) (dq dk_House_run 6 rfl) (dq dk_House_run 7 rfl) (dq dk_House_run 8 rfl) h
abbrev y_House_state : MethodName := ⟨"BundleHouse", "state", "(ZI)I"⟩
def dl_House_state : List (Nat × Instr × Nat) := [(0, .iload_n 1, 1), (1, .ifCond .eq 10, 3), (4, .aload_n 0, 1), (5, .getfield 67, 3), (8, .goto 7, 3), (11, .aload_n 0, 1), (12, .getfield 64, 3), (15, .astore_n 3, 1), (16, .aload_n 3, 1), (17, .getfield 224, 3), (20, .ifCond .eq 13, 3), (23, .iload_n 2, 1), (24, .ifCond .lt 9, 3), (27, .iload_n 2, 1), (28, .bipush 17, 2), (30, .if_icmp .le 13, 3), (33, .new 154, 3), (36, .dup, 1), (37, .ldc 227, 2), (39, .invokespecial 158, 3), (42, .athrow, 1), (43, .aload_n 3, 1), (44, .iload_n 2, 1), (45, .invokevirtual 229, 3), (48, .ireturn, 1)]
set_option maxRecDepth 100000 in
theorem dk_House_state : ∀ q ∈ dl_House_state, decode prog_1_method_17_code q.1 = .ok q.2 := by decide +kernel
abbrev rm_House_state : Room := { frames := 7, cells := 1, slots := 6, locals := 100 }
theorem cw_House_state : CWV y_House_state prog_1_method_17_code 4 (some .int) 2 := ⟨⟨g_6_21, g_1_1, by decide, by decide, by decide +kernel⟩, g_6_19, g_6_20⟩
set_option maxHeartbeats 4000000 in
set_option maxRecDepth 100000 in
theorem t_House_state_B15 {k : Cfg} {res : (Nat × Int32) × St} (C : Cx k prog_1_method_17_code "BundleHouse") (hR : RT k res) (hRm : k.2.2.2.1 = rm_House_state) (hnL : k.2.2.2.2.2.2.2.2.2.2.2.1 = 4) (v2 : Int32) (t0 : Nat) (ho_t0 : kd t0 = 8) (σ : St) (h : House_state_B15 v2 t0 σ = some res) : WW k 15 [(2, .int v2)] [.ref (ad k t0)] σ := by
  unfold House_state_B15 at h
  refine ww_astore_n C [(3, .ref (ad k t0)), (2, .int v2)] rfl hnL (lt_ rfl) rfl (dq dk_House_state 7 rfl) ?_
  refine ww_aload_n C 0 rfl rfl (dq dk_House_state 8 rfl) ?_
  refine ww_geti C ko_Machine 6 ho_t0 (lt_ rfl) g_2_81 rfl rfl (dq dk_House_state 9 rfl) ?_
  refine ww_if_eq C 33 (dq dk_House_state 10 rfl) (by decide) h (fun h => ?_) (fun h => ?_)
  · exact ww_throw C hR 1 (by decide) (by decide +kernel) g_4_163 g_4_164 g_1_19 th_TA th_TS th_A_1_158 g_4_207 th_chain_1 (List.mem_of_getElem? (i := 5) rfl) (by rw [hRm]; exact ⟨le_ rfl, le_ rfl, lt_ rfl, le_ rfl⟩) (dq dk_House_state 16 rfl) (dq dk_House_state 17 rfl) (dq dk_House_state 18 rfl) (dq dk_House_state 19 rfl) (dq dk_House_state 20 rfl) h
  · refine ww_iload_n C 1 rfl rfl (dq dk_House_state 11 rfl) ?_
    refine ww_if_lt C 33 (dq dk_House_state 12 rfl) (by decide) h (fun h => ?_) (fun h => ?_)
    · exact ww_throw C hR 1 (by decide) (by decide +kernel) g_4_163 g_4_164 g_1_19 th_TA th_TS th_A_1_158 g_4_207 th_chain_1 (List.mem_of_getElem? (i := 5) rfl) (by rw [hRm]; exact ⟨le_ rfl, le_ rfl, lt_ rfl, le_ rfl⟩) (dq dk_House_state 16 rfl) (dq dk_House_state 17 rfl) (dq dk_House_state 18 rfl) (dq dk_House_state 19 rfl) (dq dk_House_state 20 rfl) h
    · refine ww_iload_n C 1 rfl rfl (dq dk_House_state 13 rfl) ?_
      refine ww_bipush C (dq dk_House_state 14 rfl) bp_17 ?_
      refine ww_icmp_le C 43 (dq dk_House_state 15 rfl) (by decide) h (fun h => ?_) (fun h => ?_)
      · refine ww_aload_n C 0 rfl rfl (dq dk_House_state 21 rfl) ?_
        refine ww_iload_n C 1 rfl rfl (dq dk_House_state 22 rfl) ?_
        refine ww_cVi (st := []) C (c_Machine_part t0 ho_t0 v2) cw_Machine_part ho_t0 (lt_ rfl) rfl g_6_23 hRm ⟨⟨rfl, rfl⟩, le_ rfl, le_ rfl⟩ rfl rfl rfl (le_ rfl) (dq dk_House_state 23 rfl) h (fun x2 σ1 h => ?_)
        exact ww_iretT C hR (dq dk_House_state 24 rfl) h
      · exact ww_throw C hR 1 (by decide) (by decide +kernel) g_4_163 g_4_164 g_1_19 th_TA th_TS th_A_1_158 g_4_207 th_chain_1 (List.mem_of_getElem? (i := 5) rfl) (by rw [hRm]; exact ⟨le_ rfl, le_ rfl, lt_ rfl, le_ rfl⟩) (dq dk_House_state 16 rfl) (dq dk_House_state 17 rfl) (dq dk_House_state 18 rfl) (dq dk_House_state 19 rfl) (dq dk_House_state 20 rfl) h
set_option maxHeartbeats 4000000 in
set_option maxRecDepth 100000 in
theorem c_House_state (v0 : Nat) (ho_v0 : kd v0 = 0) (v1 : Int32) (v2 : Int32) : MT y_House_state rm_House_state prog_1_method_17_code 4 (fun a => [.ref (a v0), .int v1, .int v2]) (House_state v0 v1 v2) := by
  refine mt_of (by decide) (fun _ => le_ rfl) ?_
  intro k res σ C hR hRm hnL h
  unfold House_state at h
  show WW k 0 [(0, .ref (ad k v0)), (1, .int v1), (2, .int v2)] [] σ
  refine ww_iload_n C 1 rfl rfl (dq dk_House_state 0 rfl) ?_
  refine ww_if_eq C 11 (dq dk_House_state 1 rfl) (by decide) h (fun h => ?_) (fun h => ?_)
  · refine ww_aload_n C 0 rfl rfl (dq dk_House_state 5 rfl) ?_
    refine ww_getr C ko_House 9 ho_v0 (lt_ rfl) g_2_164 rfl rfl (dq dk_House_state 6 rfl) ?_
    exact ww_lv [2] rfl (t_House_state_B15 C hR hRm hnL v2 (ch v0 9) (kc_House_9 _ ho_v0) σ h)
  · refine ww_aload_n C 0 rfl rfl (dq dk_House_state 2 rfl) ?_
    refine ww_getr C ko_House 10 ho_v0 (lt_ rfl) g_2_165 rfl rfl (dq dk_House_state 3 rfl) ?_
    refine ww_goto C 15 (dq dk_House_state 4 rfl) (by decide) ?_
    exact ww_lv [2] rfl (t_House_state_B15 C hR hRm hnL v2 (ch v0 10) (kc_House_10 _ ho_v0) σ h)
abbrev y_House_walk : MethodName := ⟨"BundleHouse", "walk", "(I)I"⟩
def dl_House_walk : List (Nat × Instr × Nat) := [(0, .aload_n 0, 1), (1, .getfield 112, 3), (4, .ifCond .ne 13, 3), (7, .new 204, 3), (10, .dup, 1), (11, .ldc 221, 2), (13, .invokespecial 208, 3), (16, .athrow, 1), (17, .iload_n 1, 1), (18, .iconst 1, 1), (19, .if_icmp .lt 10, 3), (22, .iload_n 1, 1), (23, .sipush 5000, 3), (26, .if_icmp .le 13, 3), (29, .new 209, 3), (32, .dup, 1), (33, .ldc 211, 2), (35, .invokespecial 213, 3), (38, .athrow, 1), (39, .aload_n 0, 1), (40, .getfield 67, 3), (43, .aload_n 0, 1), (44, .getfield 60, 3), (47, .invokevirtual 214, 3), (50, .aload_n 0, 1), (51, .getfield 84, 3), (54, .iload_n 1, 1), (55, .invokevirtual 223, 3), (58, .ireturn, 1)]
set_option maxRecDepth 100000 in
theorem dk_House_walk : ∀ q ∈ dl_House_walk, decode prog_1_method_16_code q.1 = .ok q.2 := by decide +kernel
abbrev rm_House_walk : Room := { frames := 7, cells := 1, slots := 6, locals := 136 }
theorem cw_House_walk : CWV y_House_walk prog_1_method_16_code 2 (some .int) 1 := ⟨⟨g_5_180, g_1_1, by decide, by decide, by decide +kernel⟩, g_5_178, g_5_179⟩
set_option maxHeartbeats 4000000 in
set_option maxRecDepth 100000 in
theorem c_House_walk (v0 : Nat) (ho_v0 : kd v0 = 0) (v1 : Int32) : MT y_House_walk rm_House_walk prog_1_method_16_code 2 (fun a => [.ref (a v0), .int v1]) (House_walk v0 v1) := by
  refine mt_of (by decide) (fun _ => le_ rfl) ?_
  intro k res σ C hR hRm hnL h
  unfold House_walk at h
  show WW k 0 [(0, .ref (ad k v0)), (1, .int v1)] [] σ
  refine ww_aload_n C 0 rfl rfl (dq dk_House_walk 0 rfl) ?_
  refine ww_geti C ko_House 13 ho_v0 (lt_ rfl) g_2_168 rfl rfl (dq dk_House_walk 1 rfl) ?_
  refine ww_if_ne C 17 (dq dk_House_walk 2 rfl) (by decide) h (fun h => ?_) (fun h => ?_)
  · refine ww_iload_n C 1 rfl rfl (dq dk_House_walk 8 rfl) ?_
    refine ww_iconst C (dq dk_House_walk 9 rfl) ic_1 ?_
    refine ww_icmp_lt C 29 (dq dk_House_walk 10 rfl) (by decide) h (fun h => ?_) (fun h => ?_)
    · exact ww_throw C hR 3 (by decide) (by decide +kernel) g_5_23 g_5_24 g_1_21 th_TA th_TS th_A_3_213 g_5_35 th_chain_3 (List.mem_of_getElem? (i := 3) rfl) (by rw [hRm]; exact ⟨le_ rfl, le_ rfl, lt_ rfl, le_ rfl⟩) (dq dk_House_walk 14 rfl) (dq dk_House_walk 15 rfl) (dq dk_House_walk 16 rfl) (dq dk_House_walk 17 rfl) (dq dk_House_walk 18 rfl) h
    · refine ww_iload_n C 1 rfl rfl (dq dk_House_walk 11 rfl) ?_
      refine ww_sipush C (dq dk_House_walk 12 rfl) sp_5000 ?_
      refine ww_icmp_le C 39 (dq dk_House_walk 13 rfl) (by decide) h (fun h => ?_) (fun h => ?_)
      · refine ww_aload_n C 0 rfl rfl (dq dk_House_walk 19 rfl) ?_
        refine ww_getr C ko_House 10 ho_v0 (lt_ rfl) g_2_165 rfl rfl (dq dk_House_walk 20 rfl) ?_
        refine ww_aload_n C 0 rfl rfl (dq dk_House_walk 21 rfl) ?_
        refine ww_getr C ko_House 8 ho_v0 (lt_ rfl) g_2_163 rfl rfl (dq dk_House_walk 22 rfl) ?_
        refine ww_cVv (st := []) C (c_Machine_beginAs (ch v0 10) (kc_House_10 _ ho_v0) (ch v0 8) (kc_House_8 _ ho_v0)) cw_Machine_beginAs (kc_House_10 _ ho_v0) (lt_ rfl) rfl g_5_39 hRm ⟨⟨rfl, rfl⟩, le_ rfl, le_ rfl⟩ rfl rfl rfl (le_ rfl) (dq dk_House_walk 23 rfl) h (fun σ1 h => ?_)
        refine ww_aload_n C 0 rfl rfl (dq dk_House_walk 24 rfl) ?_
        refine ww_getr C ko_House 12 ho_v0 (lt_ rfl) g_2_167 rfl rfl (dq dk_House_walk 25 rfl) ?_
        refine ww_iload_n C 1 rfl rfl (dq dk_House_walk 26 rfl) ?_
        refine ww_cVi (st := []) C (c_Walker_goOn (ch v0 12) (kc_House_12 _ ho_v0) v1) cw_Walker_goOn (kc_House_12 _ ho_v0) (lt_ rfl) rfl g_5_182 hRm ⟨⟨rfl, rfl⟩, le_ rfl, le_ rfl⟩ rfl rfl rfl (le_ rfl) (dq dk_House_walk 27 rfl) h (fun x3 σ2 h => ?_)
        exact ww_iretT C hR (dq dk_House_walk 28 rfl) h
      · exact ww_throw C hR 3 (by decide) (by decide +kernel) g_5_23 g_5_24 g_1_21 th_TA th_TS th_A_3_213 g_5_35 th_chain_3 (List.mem_of_getElem? (i := 3) rfl) (by rw [hRm]; exact ⟨le_ rfl, le_ rfl, lt_ rfl, le_ rfl⟩) (dq dk_House_walk 14 rfl) (dq dk_House_walk 15 rfl) (dq dk_House_walk 16 rfl) (dq dk_House_walk 17 rfl) (dq dk_House_walk 18 rfl) h
  · exact ww_throw C hR 2 (by decide) (by decide +kernel) g_5_7 g_5_8 g_1_20 th_TA th_TS th_A_2_208 g_5_19 th_chain_2 (List.mem_of_getElem? (i := 4) rfl) (by rw [hRm]; exact ⟨le_ rfl, le_ rfl, lt_ rfl, le_ rfl⟩) (dq dk_House_walk 3 rfl) (dq dk_House_walk 4 rfl) (dq dk_House_walk 5 rfl) (dq dk_House_walk 6 rfl) (dq dk_House_walk 7 rfl) h
