abbrev y_Strip_addFour : MethodName := ⟨"BundleHouse$Strip", "addFour", "(I)V"⟩
def dl_Strip_addFour : List (Nat × Instr × Nat) := [(0, .bipush 24, 2), (2, .istore_n 2, 1), (3, .iload_n 2, 1), (4, .ifCond .lt 45, 3), (7, .aload_n 0, 1), (8, .getfield 18, 3), (11, .sipush 1100, 3), (14, .if_icmp .ge 29, 3), (17, .aload_n 0, 1), (18, .getfield 9, 3), (21, .aload_n 0, 1), (22, .getfield 18, 3), (25, .iload_n 1, 1), (26, .iload_n 2, 1), (27, .iushr, 1), (28, .sipush 255, 3), (31, .iand, 1), (32, .iastore, 1), (33, .aload_n 0, 1), (34, .dup, 1), (35, .getfield 18, 3), (38, .iconst 1, 1), (39, .iadd, 1), (40, .putfield 18, 3), (43, .iinc 2 (-8), 3), (46, .goto (-43), 3), (49, .return_, 1)]
set_option maxRecDepth 100000 in
theorem dk_Strip_addFour : ∀ q ∈ dl_Strip_addFour, decode prog_11_method_2_code q.1 = .ok q.2 := by decide +kernel
abbrev rm_Strip_addFour : Room := { frames := 0, cells := 0, slots := 0, locals := 0 }
theorem cw_Strip_addFour : CWV y_Strip_addFour prog_11_method_2_code 3 none 1 := ⟨⟨g_2_211, g_1_2, by decide, by decide, by decide +kernel⟩, g_2_209, g_2_210⟩
set_option maxHeartbeats 4000000 in
set_option maxRecDepth 100000 in
theorem t_Strip_addFour_B3 {k : Cfg} {res : St} (C : Cx k prog_11_method_2_code "BundleHouse$Strip") (hR : RV k res) (hRm : k.2.2.2.1 = rm_Strip_addFour) (hnL : k.2.2.2.2.2.2.2.2.2.2.2.1 = 3) : ∀ (n : Nat) (v0 : Nat) (v1 : Int32) (v2 : Int32) (ho_v0 : kd v0 = 1) (σ : St), Strip_addFour_B3 n v0 v1 v2 σ = some res → WW k 3 [(0, .ref (ad k v0)), (1, .int v1), (2, .int v2)] [] σ := by
  intro n
  induction n with
  | zero =>
    intro v0 v1 v2 ho_v0 σ h
    have h : (none : Option (St)) = some res := h
    cases h
  | succ n ih =>
    intro v0 v1 v2 ho_v0 σ h
    unfold Strip_addFour_B3 at h
    refine ww_iload_n C 2 rfl rfl (dq dk_Strip_addFour 2 rfl) ?_
    refine ww_if_lt C 49 (dq dk_Strip_addFour 3 rfl) (by decide) h (fun h => ?_) (fun h => ?_)
    · exact ww_vret C hR (dq dk_Strip_addFour 26 rfl) h
    · refine ww_aload_n C 0 rfl rfl (dq dk_Strip_addFour 4 rfl) ?_
      refine ww_geti C ko_Strip 2 ho_v0 (lt_ rfl) g_1_41 rfl rfl (dq dk_Strip_addFour 5 rfl) ?_
      refine ww_sipush C (dq dk_Strip_addFour 6 rfl) sp_1100 ?_
      refine ww_icmp_ge C 43 (dq dk_Strip_addFour 7 rfl) (by decide) h (fun h => ?_) (fun h => ?_)
      · refine ww_iinc C 2 (fun z => [(2, .int z), (0, .ref (ad k v0)), (1, .int v1)]) rfl ic_m8 hnL (lt_ rfl) (fun _ => rfl) (dq dk_Strip_addFour 24 rfl) h (fun x1 h => ?_)
        refine ww_goto C 3 (dq dk_Strip_addFour 25 rfl) (by decide) ?_
        exact ww_lv [1, 2, 0] rfl (ih v0 v1 x1 ho_v0 σ h)
      · refine ww_aload_n C 0 rfl rfl (dq dk_Strip_addFour 8 rfl) ?_
        refine ww_getr C ko_Strip 0 ho_v0 (lt_ rfl) g_1_36 rfl rfl (dq dk_Strip_addFour 9 rfl) ?_
        refine ww_aload_n C 0 rfl rfl (dq dk_Strip_addFour 10 rfl) ?_
        refine ww_geti C ko_Strip 2 ho_v0 (lt_ rfl) g_1_41 rfl rfl (dq dk_Strip_addFour 11 rfl) ?_
        refine ww_iload_n C 1 rfl rfl (dq dk_Strip_addFour 12 rfl) ?_
        refine ww_iload_n C 2 rfl rfl (dq dk_Strip_addFour 13 rfl) ?_
        refine ww_iushr C (dq dk_Strip_addFour 14 rfl) ?_
        refine ww_sipush C (dq dk_Strip_addFour 15 rfl) sp_255 ?_
        refine ww_iand C (dq dk_Strip_addFour 16 rfl) ?_
        refine ww_iast C (kc_Strip_0 _ ho_v0).1 (kc_Strip_0 _ ho_v0).2 (dq dk_Strip_addFour 17 rfl) h (fun σ2 h => ?_)
        refine ww_aload_n C 0 rfl rfl (dq dk_Strip_addFour 18 rfl) ?_
        refine ww_dup C rfl (dq dk_Strip_addFour 19 rfl) ?_
        refine ww_geti C ko_Strip 2 ho_v0 (lt_ rfl) g_1_41 rfl rfl (dq dk_Strip_addFour 20 rfl) ?_
        refine ww_iconst C (dq dk_Strip_addFour 21 rfl) ic_1 ?_
        refine ww_iadd C (dq dk_Strip_addFour 22 rfl) ?_
        refine ww_puti C ko_Strip 2 ho_v0 (lt_ rfl) g_1_41 rfl rfl rfl rfl (dq dk_Strip_addFour 23 rfl) h (fun σ3 h => ?_)
        refine ww_iinc C 2 (fun z => [(2, .int z), (0, .ref (ad k v0)), (1, .int v1)]) rfl ic_m8 hnL (lt_ rfl) (fun _ => rfl) (dq dk_Strip_addFour 24 rfl) h (fun x4 h => ?_)
        refine ww_goto C 3 (dq dk_Strip_addFour 25 rfl) (by decide) ?_
        exact ww_lv [1, 2, 0] rfl (ih v0 v1 x4 ho_v0 σ3 h)
set_option maxHeartbeats 4000000 in
set_option maxRecDepth 100000 in
theorem c_Strip_addFour (v0 : Nat) (ho_v0 : kd v0 = 1) (v1 : Int32) : MV y_Strip_addFour rm_Strip_addFour prog_11_method_2_code 3 (fun a => [.ref (a v0), .int v1]) (Strip_addFour v0 v1) := by
  refine mv_of (by decide) (fun _ => le_ rfl) ?_
  intro k res σ C hR hRm hnL h
  unfold Strip_addFour at h
  show WW k 0 [(0, .ref (ad k v0)), (1, .int v1)] [] σ
  refine ww_bipush C (dq dk_Strip_addFour 0 rfl) bp_24 ?_
  refine ww_istore_n C [(2, .int 24), (0, .ref (ad k v0)), (1, .int v1)] rfl hnL (lt_ rfl) rfl (dq dk_Strip_addFour 1 rfl) ?_
  exact ww_lv [1, 2, 0] rfl (t_Strip_addFour_B3 C hR hRm hnL FU v0 v1 24 ho_v0 σ h)
abbrev y_Strip_byteAt : MethodName := ⟨"BundleHouse$Strip", "byteAt", "(I)I"⟩
def dl_Strip_byteAt : List (Nat × Instr × Nat) := [(0, .iload_n 1, 1), (1, .ifCond .lt 11, 3), (4, .iload_n 1, 1), (5, .aload_n 0, 1), (6, .getfield 18, 3), (9, .if_icmp .lt 7, 3), (12, .iconst (-1), 1), (13, .goto 9, 3), (16, .aload_n 0, 1), (17, .getfield 9, 3), (20, .iload_n 1, 1), (21, .iaload, 1), (22, .ireturn, 1)]
set_option maxRecDepth 100000 in
theorem dk_Strip_byteAt : ∀ q ∈ dl_Strip_byteAt, decode prog_11_method_3_code q.1 = .ok q.2 := by decide +kernel
abbrev rm_Strip_byteAt : Room := { frames := 0, cells := 0, slots := 0, locals := 0 }
theorem cw_Strip_byteAt : CWV y_Strip_byteAt prog_11_method_3_code 2 (some .int) 1 := ⟨⟨g_3_66, g_1_2, by decide, by decide, by decide +kernel⟩, g_3_64, g_3_65⟩
set_option maxHeartbeats 4000000 in
set_option maxRecDepth 100000 in
theorem c_Strip_byteAt (v0 : Nat) (ho_v0 : kd v0 = 1) (v1 : Int32) : MI y_Strip_byteAt rm_Strip_byteAt prog_11_method_3_code 2 .int (fun a => [.ref (a v0), .int v1]) (Strip_byteAt v0 v1) := by
  refine mi_of (by decide) (fun _ => le_ rfl) ?_
  intro k res σ C hR hRm hnL h
  unfold Strip_byteAt at h
  show WW k 0 [(0, .ref (ad k v0)), (1, .int v1)] [] σ
  refine ww_iload_n C 1 rfl rfl (dq dk_Strip_byteAt 0 rfl) ?_
  refine ww_if_lt C 12 (dq dk_Strip_byteAt 1 rfl) (by decide) h (fun h => ?_) (fun h => ?_)
  · refine ww_iconst C (dq dk_Strip_byteAt 6 rfl) ic_m1 ?_
    refine ww_goto C 22 (dq dk_Strip_byteAt 7 rfl) (by decide) ?_
    exact ww_iret C hR (dq dk_Strip_byteAt 12 rfl) h
  · refine ww_iload_n C 1 rfl rfl (dq dk_Strip_byteAt 2 rfl) ?_
    refine ww_aload_n C 0 rfl rfl (dq dk_Strip_byteAt 3 rfl) ?_
    refine ww_geti C ko_Strip 2 ho_v0 (lt_ rfl) g_1_41 rfl rfl (dq dk_Strip_byteAt 4 rfl) ?_
    refine ww_icmp_lt C 16 (dq dk_Strip_byteAt 5 rfl) (by decide) h (fun h => ?_) (fun h => ?_)
    · refine ww_aload_n C 0 rfl rfl (dq dk_Strip_byteAt 8 rfl) ?_
      refine ww_getr C ko_Strip 0 ho_v0 (lt_ rfl) g_1_36 rfl rfl (dq dk_Strip_byteAt 9 rfl) ?_
      refine ww_iload_n C 1 rfl rfl (dq dk_Strip_byteAt 10 rfl) ?_
      refine ww_iald C (kc_Strip_0 _ ho_v0).1 (kc_Strip_0 _ ho_v0).2 (dq dk_Strip_byteAt 11 rfl) h (fun x1 h => ?_)
      exact ww_iret C hR (dq dk_Strip_byteAt 12 rfl) h
    · refine ww_iconst C (dq dk_Strip_byteAt 6 rfl) ic_m1 ?_
      refine ww_goto C 22 (dq dk_Strip_byteAt 7 rfl) (by decide) ?_
      exact ww_iret C hR (dq dk_Strip_byteAt 12 rfl) h
abbrev y_Strip_putPiece : MethodName := ⟨"BundleHouse$Strip", "putPiece", "(ILBundleHouse$Piece;)V"⟩
def dl_Strip_putPiece : List (Nat × Instr × Nat) := [(0, .iconst 0, 1), (1, .istore_n 3, 1), (2, .iload_n 3, 1), (3, .aload_n 2, 1), (4, .getfield 22, 3), (7, .if_icmp .ge 38, 3), (10, .iload_n 1, 1), (11, .iload_n 3, 1), (12, .iadd, 1), (13, .ifCond .lt 26, 3), (16, .iload_n 1, 1), (17, .iload_n 3, 1), (18, .iadd, 1), (19, .sipush 1100, 3), (22, .if_icmp .ge 17, 3), (25, .aload_n 0, 1), (26, .getfield 9, 3), (29, .iload_n 1, 1), (30, .iload_n 3, 1), (31, .iadd, 1), (32, .aload_n 2, 1), (33, .getfield 25, 3), (36, .iload_n 3, 1), (37, .iaload, 1), (38, .iastore, 1), (39, .iinc 3 1, 3), (42, .goto (-40), 3), (45, .return_, 1)]
set_option maxRecDepth 100000 in
theorem dk_Strip_putPiece : ∀ q ∈ dl_Strip_putPiece, decode prog_11_method_4_code q.1 = .ok q.2 := by decide +kernel
abbrev rm_Strip_putPiece : Room := { frames := 0, cells := 0, slots := 0, locals := 0 }
theorem cw_Strip_putPiece : CWV y_Strip_putPiece prog_11_method_4_code 4 none 2 := ⟨⟨g_4_101, g_1_2, by decide, by decide, by decide +kernel⟩, g_4_99, g_4_100⟩
set_option maxHeartbeats 4000000 in
set_option maxRecDepth 100000 in
theorem t_Strip_putPiece_B2 {k : Cfg} {res : St} (C : Cx k prog_11_method_4_code "BundleHouse$Strip") (hR : RV k res) (hRm : k.2.2.2.1 = rm_Strip_putPiece) (hnL : k.2.2.2.2.2.2.2.2.2.2.2.1 = 4) : ∀ (n : Nat) (v0 : Nat) (v1 : Int32) (v2 : Nat) (v3 : Int32) (ho_v0 : kd v0 = 1) (ho_v2 : kd v2 = 7) (σ : St), Strip_putPiece_B2 n v0 v1 v2 v3 σ = some res → WW k 2 [(0, .ref (ad k v0)), (1, .int v1), (2, .ref (ad k v2)), (3, .int v3)] [] σ := by
  intro n
  induction n with
  | zero =>
    intro v0 v1 v2 v3 ho_v0 ho_v2 σ h
    have h : (none : Option (St)) = some res := h
    cases h
  | succ n ih =>
    intro v0 v1 v2 v3 ho_v0 ho_v2 σ h
    unfold Strip_putPiece_B2 at h
    refine ww_iload_n C 3 rfl rfl (dq dk_Strip_putPiece 2 rfl) ?_
    refine ww_aload_n C 2 rfl rfl (dq dk_Strip_putPiece 3 rfl) ?_
    refine ww_geti C ko_Piece 1 ho_v2 (lt_ rfl) g_2_3 rfl rfl (dq dk_Strip_putPiece 4 rfl) ?_
    refine ww_icmp_ge C 45 (dq dk_Strip_putPiece 5 rfl) (by decide) h (fun h => ?_) (fun h => ?_)
    · exact ww_vret C hR (dq dk_Strip_putPiece 27 rfl) h
    · refine ww_iload_n C 1 rfl rfl (dq dk_Strip_putPiece 6 rfl) ?_
      refine ww_iload_n C 3 rfl rfl (dq dk_Strip_putPiece 7 rfl) ?_
      refine ww_iadd C (dq dk_Strip_putPiece 8 rfl) ?_
      refine ww_if_lt C 39 (dq dk_Strip_putPiece 9 rfl) (by decide) h (fun h => ?_) (fun h => ?_)
      · refine ww_iinc C 3 (fun z => [(3, .int z), (0, .ref (ad k v0)), (1, .int v1), (2, .ref (ad k v2))]) rfl ic_1 hnL (lt_ rfl) (fun _ => rfl) (dq dk_Strip_putPiece 25 rfl) h (fun x1 h => ?_)
        refine ww_goto C 2 (dq dk_Strip_putPiece 26 rfl) (by decide) ?_
        exact ww_lv [1, 2, 3, 0] rfl (ih v0 v1 v2 x1 ho_v0 ho_v2 σ h)
      · refine ww_iload_n C 1 rfl rfl (dq dk_Strip_putPiece 10 rfl) ?_
        refine ww_iload_n C 3 rfl rfl (dq dk_Strip_putPiece 11 rfl) ?_
        refine ww_iadd C (dq dk_Strip_putPiece 12 rfl) ?_
        refine ww_sipush C (dq dk_Strip_putPiece 13 rfl) sp_1100 ?_
        refine ww_icmp_ge C 39 (dq dk_Strip_putPiece 14 rfl) (by decide) h (fun h => ?_) (fun h => ?_)
        · refine ww_iinc C 3 (fun z => [(3, .int z), (0, .ref (ad k v0)), (1, .int v1), (2, .ref (ad k v2))]) rfl ic_1 hnL (lt_ rfl) (fun _ => rfl) (dq dk_Strip_putPiece 25 rfl) h (fun x2 h => ?_)
          refine ww_goto C 2 (dq dk_Strip_putPiece 26 rfl) (by decide) ?_
          exact ww_lv [1, 2, 3, 0] rfl (ih v0 v1 v2 x2 ho_v0 ho_v2 σ h)
        · refine ww_aload_n C 0 rfl rfl (dq dk_Strip_putPiece 15 rfl) ?_
          refine ww_getr C ko_Strip 0 ho_v0 (lt_ rfl) g_1_36 rfl rfl (dq dk_Strip_putPiece 16 rfl) ?_
          refine ww_iload_n C 1 rfl rfl (dq dk_Strip_putPiece 17 rfl) ?_
          refine ww_iload_n C 3 rfl rfl (dq dk_Strip_putPiece 18 rfl) ?_
          refine ww_iadd C (dq dk_Strip_putPiece 19 rfl) ?_
          refine ww_aload_n C 2 rfl rfl (dq dk_Strip_putPiece 20 rfl) ?_
          refine ww_getr C ko_Piece 0 ho_v2 (lt_ rfl) g_2_1 rfl rfl (dq dk_Strip_putPiece 21 rfl) ?_
          refine ww_iload_n C 3 rfl rfl (dq dk_Strip_putPiece 22 rfl) ?_
          refine ww_iald C (kc_Piece_0 _ ho_v2).1 (kc_Piece_0 _ ho_v2).2 (dq dk_Strip_putPiece 23 rfl) h (fun x3 h => ?_)
          refine ww_iast C (kc_Strip_0 _ ho_v0).1 (kc_Strip_0 _ ho_v0).2 (dq dk_Strip_putPiece 24 rfl) h (fun σ4 h => ?_)
          refine ww_iinc C 3 (fun z => [(3, .int z), (0, .ref (ad k v0)), (1, .int v1), (2, .ref (ad k v2))]) rfl ic_1 hnL (lt_ rfl) (fun _ => rfl) (dq dk_Strip_putPiece 25 rfl) h (fun x5 h => ?_)
          refine ww_goto C 2 (dq dk_Strip_putPiece 26 rfl) (by decide) ?_
          exact ww_lv [1, 2, 3, 0] rfl (ih v0 v1 v2 x5 ho_v0 ho_v2 σ4 h)
set_option maxHeartbeats 4000000 in
set_option maxRecDepth 100000 in
theorem c_Strip_putPiece (v0 : Nat) (ho_v0 : kd v0 = 1) (v1 : Int32) (v2 : Nat) (ho_v2 : kd v2 = 7) : MV y_Strip_putPiece rm_Strip_putPiece prog_11_method_4_code 4 (fun a => [.ref (a v0), .int v1, .ref (a v2)]) (Strip_putPiece v0 v1 v2) := by
  refine mv_of (by decide) (fun _ => le_ rfl) ?_
  intro k res σ C hR hRm hnL h
  unfold Strip_putPiece at h
  show WW k 0 [(0, .ref (ad k v0)), (1, .int v1), (2, .ref (ad k v2))] [] σ
  refine ww_iconst C (dq dk_Strip_putPiece 0 rfl) ic_0 ?_
  refine ww_istore_n C [(3, .int 0), (0, .ref (ad k v0)), (1, .int v1), (2, .ref (ad k v2))] rfl hnL (lt_ rfl) rfl (dq dk_Strip_putPiece 1 rfl) ?_
  exact ww_lv [1, 2, 3, 0] rfl (t_Strip_putPiece_B2 C hR hRm hnL FU v0 v1 v2 0 ho_v0 ho_v2 σ h)
abbrev y_Strip_becomeFilling : MethodName := ⟨"BundleHouse$Strip", "becomeFilling", "(II)V"⟩
def dl_Strip_becomeFilling : List (Nat × Instr × Nat) := [(0, .aload_n 0, 1), (1, .iconst 0, 1), (2, .iload_n 1, 1), (3, .sipush 1100, 3), (6, .invokestatic 26, 3), (9, .invokestatic 32, 3), (12, .putfield 18, 3), (15, .iconst 0, 1), (16, .istore_n 3, 1), (17, .iload_n 3, 1), (18, .aload_n 0, 1), (19, .getfield 18, 3), (22, .if_icmp .ge 29, 3), (25, .aload_n 0, 1), (26, .getfield 9, 3), (29, .iload_n 3, 1), (30, .iload_n 3, 1), (31, .iload_n 2, 1), (32, .if_icmp .ge 9, 3), (35, .sipush 144, 3), (38, .goto 6, 3), (41, .sipush 244, 3), (44, .iastore, 1), (45, .iinc 3 1, 3), (48, .goto (-31), 3), (51, .return_, 1)]
set_option maxRecDepth 100000 in
theorem dk_Strip_becomeFilling : ∀ q ∈ dl_Strip_becomeFilling, decode prog_11_method_5_code q.1 = .ok q.2 := by decide +kernel
abbrev rm_Strip_becomeFilling : Room := { frames := 1, cells := 0, slots := 0, locals := 21 }
theorem cw_Strip_becomeFilling : CWV y_Strip_becomeFilling prog_11_method_5_code 4 none 2 := ⟨⟨g_4_63, g_1_2, by decide, by decide, by decide +kernel⟩, g_4_61, g_4_62⟩
set_option maxHeartbeats 4000000 in
set_option maxRecDepth 100000 in
theorem t_Strip_becomeFilling_B17 {k : Cfg} {res : St} (C : Cx k prog_11_method_5_code "BundleHouse$Strip") (hR : RV k res) (hRm : k.2.2.2.1 = rm_Strip_becomeFilling) (hnL : k.2.2.2.2.2.2.2.2.2.2.2.1 = 4) : ∀ (n : Nat) (v0 : Nat) (v2 : Int32) (v3 : Int32) (ho_v0 : kd v0 = 1) (σ : St), Strip_becomeFilling_B17 n v0 v2 v3 σ = some res → WW k 17 [(0, .ref (ad k v0)), (2, .int v2), (3, .int v3)] [] σ := by
  intro n
  induction n with
  | zero =>
    intro v0 v2 v3 ho_v0 σ h
    have h : (none : Option (St)) = some res := h
    cases h
  | succ n ih =>
    intro v0 v2 v3 ho_v0 σ h
    unfold Strip_becomeFilling_B17 at h
    refine ww_iload_n C 2 rfl rfl (dq dk_Strip_becomeFilling 9 rfl) ?_
    refine ww_aload_n C 0 rfl rfl (dq dk_Strip_becomeFilling 10 rfl) ?_
    refine ww_geti C ko_Strip 2 ho_v0 (lt_ rfl) g_1_41 rfl rfl (dq dk_Strip_becomeFilling 11 rfl) ?_
    refine ww_icmp_ge C 51 (dq dk_Strip_becomeFilling 12 rfl) (by decide) h (fun h => ?_) (fun h => ?_)
    · exact ww_vret C hR (dq dk_Strip_becomeFilling 25 rfl) h
    · refine ww_aload_n C 0 rfl rfl (dq dk_Strip_becomeFilling 13 rfl) ?_
      refine ww_getr C ko_Strip 0 ho_v0 (lt_ rfl) g_1_36 rfl rfl (dq dk_Strip_becomeFilling 14 rfl) ?_
      refine ww_iload_n C 2 rfl rfl (dq dk_Strip_becomeFilling 15 rfl) ?_
      refine ww_iload_n C 2 rfl rfl (dq dk_Strip_becomeFilling 16 rfl) ?_
      refine ww_iload_n C 1 rfl rfl (dq dk_Strip_becomeFilling 17 rfl) ?_
      refine ww_icmp_ge C 41 (dq dk_Strip_becomeFilling 18 rfl) (by decide) h (fun h => ?_) (fun h => ?_)
      · refine ww_sipush C (dq dk_Strip_becomeFilling 21 rfl) sp_244 ?_
        refine ww_iast C (kc_Strip_0 _ ho_v0).1 (kc_Strip_0 _ ho_v0).2 (dq dk_Strip_becomeFilling 22 rfl) h (fun σ1 h => ?_)
        refine ww_iinc C 2 (fun z => [(3, .int z), (0, .ref (ad k v0)), (2, .int v2)]) rfl ic_1 hnL (lt_ rfl) (fun _ => rfl) (dq dk_Strip_becomeFilling 23 rfl) h (fun x2 h => ?_)
        refine ww_goto C 17 (dq dk_Strip_becomeFilling 24 rfl) (by decide) ?_
        exact ww_lv [1, 2, 0] rfl (ih v0 v2 x2 ho_v0 σ1 h)
      · refine ww_sipush C (dq dk_Strip_becomeFilling 19 rfl) sp_144 ?_
        refine ww_goto C 44 (dq dk_Strip_becomeFilling 20 rfl) (by decide) ?_
        refine ww_iast C (kc_Strip_0 _ ho_v0).1 (kc_Strip_0 _ ho_v0).2 (dq dk_Strip_becomeFilling 22 rfl) h (fun σ3 h => ?_)
        refine ww_iinc C 2 (fun z => [(3, .int z), (0, .ref (ad k v0)), (2, .int v2)]) rfl ic_1 hnL (lt_ rfl) (fun _ => rfl) (dq dk_Strip_becomeFilling 23 rfl) h (fun x4 h => ?_)
        refine ww_goto C 17 (dq dk_Strip_becomeFilling 24 rfl) (by decide) ?_
        exact ww_lv [1, 2, 0] rfl (ih v0 v2 x4 ho_v0 σ3 h)
set_option maxHeartbeats 4000000 in
set_option maxRecDepth 100000 in
theorem c_Strip_becomeFilling (v0 : Nat) (ho_v0 : kd v0 = 1) (v1 : Int32) (v2 : Int32) : MV y_Strip_becomeFilling rm_Strip_becomeFilling prog_11_method_5_code 4 (fun a => [.ref (a v0), .int v1, .int v2]) (Strip_becomeFilling v0 v1 v2) := by
  refine mv_of (by decide) (fun _ => le_ rfl) ?_
  intro k res σ C hR hRm hnL h
  unfold Strip_becomeFilling at h
  show WW k 0 [(0, .ref (ad k v0)), (1, .int v1), (2, .int v2)] [] σ
  refine ww_aload_n C 0 rfl rfl (dq dk_Strip_becomeFilling 0 rfl) ?_
  refine ww_iconst C (dq dk_Strip_becomeFilling 1 rfl) ic_0 ?_
  refine ww_iload_n C 1 rfl rfl (dq dk_Strip_becomeFilling 2 rfl) ?_
  refine ww_sipush C (dq dk_Strip_becomeFilling 3 rfl) sp_1100 ?_
  refine ww_mmin C g_4_64 g_4_65 g_1_15 g_4_66 (by rw [hRm]; exact ⟨le_ rfl, le_ rfl⟩) (dq dk_Strip_becomeFilling 4 rfl) ?_
  refine ww_mmax C g_4_67 g_4_68 g_1_15 g_4_69 (by rw [hRm]; exact ⟨le_ rfl, le_ rfl⟩) (dq dk_Strip_becomeFilling 5 rfl) ?_
  refine ww_puti C ko_Strip 2 ho_v0 (lt_ rfl) g_1_41 rfl rfl rfl rfl (dq dk_Strip_becomeFilling 6 rfl) h (fun σ1 h => ?_)
  refine ww_iconst C (dq dk_Strip_becomeFilling 7 rfl) ic_0 ?_
  refine ww_istore_n C [(3, .int 0), (0, .ref (ad k v0)), (1, .int v1), (2, .int v2)] rfl hnL (lt_ rfl) rfl (dq dk_Strip_becomeFilling 8 rfl) ?_
  exact ww_lv [1, 3, 0] rfl (t_Strip_becomeFilling_B17 C hR hRm hnL FU v0 v2 0 ho_v0 σ1 h)
abbrev y_Strip_markAt : MethodName := ⟨"BundleHouse$Strip", "markAt", "(I)I"⟩
def dl_Strip_markAt : List (Nat × Instr × Nat) := [(0, .iload_n 1, 1), (1, .ifCond .lt 11, 3), (4, .iload_n 1, 1), (5, .aload_n 0, 1), (6, .getfield 18, 3), (9, .if_icmp .lt 7, 3), (12, .iconst 0, 1), (13, .goto 9, 3), (16, .aload_n 0, 1), (17, .getfield 15, 3), (20, .iload_n 1, 1), (21, .iaload, 1), (22, .ireturn, 1)]
set_option maxRecDepth 100000 in
theorem dk_Strip_markAt : ∀ q ∈ dl_Strip_markAt, decode prog_11_method_6_code q.1 = .ok q.2 := by decide +kernel
abbrev rm_Strip_markAt : Room := { frames := 0, cells := 0, slots := 0, locals := 0 }
theorem cw_Strip_markAt : CWV y_Strip_markAt prog_11_method_6_code 2 (some .int) 1 := ⟨⟨g_3_74, g_1_2, by decide, by decide, by decide +kernel⟩, g_3_72, g_3_73⟩
set_option maxHeartbeats 4000000 in
set_option maxRecDepth 100000 in
theorem c_Strip_markAt (v0 : Nat) (ho_v0 : kd v0 = 1) (v1 : Int32) : MI y_Strip_markAt rm_Strip_markAt prog_11_method_6_code 2 .int (fun a => [.ref (a v0), .int v1]) (Strip_markAt v0 v1) := by
  refine mi_of (by decide) (fun _ => le_ rfl) ?_
  intro k res σ C hR hRm hnL h
  unfold Strip_markAt at h
  show WW k 0 [(0, .ref (ad k v0)), (1, .int v1)] [] σ
  refine ww_iload_n C 1 rfl rfl (dq dk_Strip_markAt 0 rfl) ?_
  refine ww_if_lt C 12 (dq dk_Strip_markAt 1 rfl) (by decide) h (fun h => ?_) (fun h => ?_)
  · refine ww_iconst C (dq dk_Strip_markAt 6 rfl) ic_0 ?_
    refine ww_goto C 22 (dq dk_Strip_markAt 7 rfl) (by decide) ?_
    exact ww_iret C hR (dq dk_Strip_markAt 12 rfl) h
  · refine ww_iload_n C 1 rfl rfl (dq dk_Strip_markAt 2 rfl) ?_
    refine ww_aload_n C 0 rfl rfl (dq dk_Strip_markAt 3 rfl) ?_
    refine ww_geti C ko_Strip 2 ho_v0 (lt_ rfl) g_1_41 rfl rfl (dq dk_Strip_markAt 4 rfl) ?_
    refine ww_icmp_lt C 16 (dq dk_Strip_markAt 5 rfl) (by decide) h (fun h => ?_) (fun h => ?_)
    · refine ww_aload_n C 0 rfl rfl (dq dk_Strip_markAt 8 rfl) ?_
      refine ww_getr C ko_Strip 1 ho_v0 (lt_ rfl) g_1_38 rfl rfl (dq dk_Strip_markAt 9 rfl) ?_
      refine ww_iload_n C 1 rfl rfl (dq dk_Strip_markAt 10 rfl) ?_
      refine ww_iald C (kc_Strip_1 _ ho_v0).1 (kc_Strip_1 _ ho_v0).2 (dq dk_Strip_markAt 11 rfl) h (fun x1 h => ?_)
      exact ww_iret C hR (dq dk_Strip_markAt 12 rfl) h
    · refine ww_iconst C (dq dk_Strip_markAt 6 rfl) ic_0 ?_
      refine ww_goto C 22 (dq dk_Strip_markAt 7 rfl) (by decide) ?_
      exact ww_iret C hR (dq dk_Strip_markAt 12 rfl) h
abbrev y_Strip_mark : MethodName := ⟨"BundleHouse$Strip", "mark", "(II)V"⟩
def dl_Strip_mark : List (Nat × Instr × Nat) := [(0, .iload_n 1, 1), (1, .ifCond .lt 17, 3), (4, .iload_n 1, 1), (5, .sipush 1100, 3), (8, .if_icmp .ge 10, 3), (11, .aload_n 0, 1), (12, .getfield 15, 3), (15, .iload_n 1, 1), (16, .iload_n 2, 1), (17, .iastore, 1), (18, .return_, 1)]
set_option maxRecDepth 100000 in
theorem dk_Strip_mark : ∀ q ∈ dl_Strip_mark, decode prog_11_method_7_code q.1 = .ok q.2 := by decide +kernel
abbrev rm_Strip_mark : Room := { frames := 0, cells := 0, slots := 0, locals := 0 }
theorem cw_Strip_mark : CWV y_Strip_mark prog_11_method_7_code 3 none 2 := ⟨⟨g_3_58, g_1_2, by decide, by decide, by decide +kernel⟩, g_3_56, g_3_57⟩
set_option maxHeartbeats 4000000 in
set_option maxRecDepth 100000 in
theorem c_Strip_mark (v0 : Nat) (ho_v0 : kd v0 = 1) (v1 : Int32) (v2 : Int32) : MV y_Strip_mark rm_Strip_mark prog_11_method_7_code 3 (fun a => [.ref (a v0), .int v1, .int v2]) (Strip_mark v0 v1 v2) := by
  refine mv_of (by decide) (fun _ => le_ rfl) ?_
  intro k res σ C hR hRm hnL h
  unfold Strip_mark at h
  show WW k 0 [(0, .ref (ad k v0)), (1, .int v1), (2, .int v2)] [] σ
  refine ww_iload_n C 1 rfl rfl (dq dk_Strip_mark 0 rfl) ?_
  refine ww_if_lt C 18 (dq dk_Strip_mark 1 rfl) (by decide) h (fun h => ?_) (fun h => ?_)
  · exact ww_vret C hR (dq dk_Strip_mark 10 rfl) h
  · refine ww_iload_n C 1 rfl rfl (dq dk_Strip_mark 2 rfl) ?_
    refine ww_sipush C (dq dk_Strip_mark 3 rfl) sp_1100 ?_
    refine ww_icmp_ge C 18 (dq dk_Strip_mark 4 rfl) (by decide) h (fun h => ?_) (fun h => ?_)
    · exact ww_vret C hR (dq dk_Strip_mark 10 rfl) h
    · refine ww_aload_n C 0 rfl rfl (dq dk_Strip_mark 5 rfl) ?_
      refine ww_getr C ko_Strip 1 ho_v0 (lt_ rfl) g_1_38 rfl rfl (dq dk_Strip_mark 6 rfl) ?_
      refine ww_iload_n C 1 rfl rfl (dq dk_Strip_mark 7 rfl) ?_
      refine ww_iload_n C 2 rfl rfl (dq dk_Strip_mark 8 rfl) ?_
      refine ww_iast C (kc_Strip_1 _ ho_v0).1 (kc_Strip_1 _ ho_v0).2 (dq dk_Strip_mark 9 rfl) h (fun σ1 h => ?_)
      exact ww_vret C hR (dq dk_Strip_mark 10 rfl) h
abbrev y_Strip_dropMarks : MethodName := ⟨"BundleHouse$Strip", "dropMarks", "()V"⟩
def dl_Strip_dropMarks : List (Nat × Instr × Nat) := [(0, .iconst 0, 1), (1, .istore_n 1, 1), (2, .iload_n 1, 1), (3, .sipush 1100, 3), (6, .if_icmp .ge 16, 3), (9, .aload_n 0, 1), (10, .getfield 15, 3), (13, .iload_n 1, 1), (14, .iconst 0, 1), (15, .iastore, 1), (16, .iinc 1 1, 3), (19, .goto (-17), 3), (22, .return_, 1)]
set_option maxRecDepth 100000 in
theorem dk_Strip_dropMarks : ∀ q ∈ dl_Strip_dropMarks, decode prog_11_method_8_code q.1 = .ok q.2 := by decide +kernel
abbrev rm_Strip_dropMarks : Room := { frames := 0, cells := 0, slots := 0, locals := 0 }
theorem cw_Strip_dropMarks : CWV y_Strip_dropMarks prog_11_method_8_code 2 none 0 := ⟨⟨g_2_227, g_1_2, by decide, by decide, by decide +kernel⟩, g_2_225, g_2_226⟩
set_option maxHeartbeats 4000000 in
set_option maxRecDepth 100000 in
theorem t_Strip_dropMarks_B2 {k : Cfg} {res : St} (C : Cx k prog_11_method_8_code "BundleHouse$Strip") (hR : RV k res) (hRm : k.2.2.2.1 = rm_Strip_dropMarks) (hnL : k.2.2.2.2.2.2.2.2.2.2.2.1 = 2) : ∀ (n : Nat) (v0 : Nat) (v1 : Int32) (ho_v0 : kd v0 = 1) (σ : St), Strip_dropMarks_B2 n v0 v1 σ = some res → WW k 2 [(0, .ref (ad k v0)), (1, .int v1)] [] σ := by
  intro n
  induction n with
  | zero =>
    intro v0 v1 ho_v0 σ h
    have h : (none : Option (St)) = some res := h
    cases h
  | succ n ih =>
    intro v0 v1 ho_v0 σ h
    unfold Strip_dropMarks_B2 at h
    refine ww_iload_n C 1 rfl rfl (dq dk_Strip_dropMarks 2 rfl) ?_
    refine ww_sipush C (dq dk_Strip_dropMarks 3 rfl) sp_1100 ?_
    refine ww_icmp_ge C 22 (dq dk_Strip_dropMarks 4 rfl) (by decide) h (fun h => ?_) (fun h => ?_)
    · exact ww_vret C hR (dq dk_Strip_dropMarks 12 rfl) h
    · refine ww_aload_n C 0 rfl rfl (dq dk_Strip_dropMarks 5 rfl) ?_
      refine ww_getr C ko_Strip 1 ho_v0 (lt_ rfl) g_1_38 rfl rfl (dq dk_Strip_dropMarks 6 rfl) ?_
      refine ww_iload_n C 1 rfl rfl (dq dk_Strip_dropMarks 7 rfl) ?_
      refine ww_iconst C (dq dk_Strip_dropMarks 8 rfl) ic_0 ?_
      refine ww_iast C (kc_Strip_1 _ ho_v0).1 (kc_Strip_1 _ ho_v0).2 (dq dk_Strip_dropMarks 9 rfl) h (fun σ1 h => ?_)
      refine ww_iinc C 1 (fun z => [(1, .int z), (0, .ref (ad k v0))]) rfl ic_1 hnL (lt_ rfl) (fun _ => rfl) (dq dk_Strip_dropMarks 10 rfl) h (fun x2 h => ?_)
      refine ww_goto C 2 (dq dk_Strip_dropMarks 11 rfl) (by decide) ?_
      exact ww_lv [1, 0] rfl (ih v0 x2 ho_v0 σ1 h)
set_option maxHeartbeats 4000000 in
set_option maxRecDepth 100000 in
theorem c_Strip_dropMarks (v0 : Nat) (ho_v0 : kd v0 = 1) : MV y_Strip_dropMarks rm_Strip_dropMarks prog_11_method_8_code 2 (fun a => [.ref (a v0)]) (Strip_dropMarks v0) := by
  refine mv_of (by decide) (fun _ => le_ rfl) ?_
  intro k res σ C hR hRm hnL h
  unfold Strip_dropMarks at h
  show WW k 0 [(0, .ref (ad k v0))] [] σ
  refine ww_iconst C (dq dk_Strip_dropMarks 0 rfl) ic_0 ?_
  refine ww_istore_n C [(1, .int 0), (0, .ref (ad k v0))] rfl hnL (lt_ rfl) rfl (dq dk_Strip_dropMarks 1 rfl) ?_
  exact ww_lv [1, 0] rfl (t_Strip_dropMarks_B2 C hR hRm hnL FU v0 0 ho_v0 σ h)
abbrev y_Strip_copyFrom : MethodName := ⟨"BundleHouse$Strip", "copyFrom", "(LBundleHouse$Strip;)V"⟩
def dl_Strip_copyFrom : List (Nat × Instr × Nat) := [(0, .aload_n 1, 1), (1, .getfield 9, 3), (4, .iconst 0, 1), (5, .aload_n 0, 1), (6, .getfield 9, 3), (9, .iconst 0, 1), (10, .sipush 1100, 3), (13, .invokestatic 35, 3), (16, .aload_n 1, 1), (17, .getfield 15, 3), (20, .iconst 0, 1), (21, .aload_n 0, 1), (22, .getfield 15, 3), (25, .iconst 0, 1), (26, .sipush 1100, 3), (29, .invokestatic 35, 3), (32, .aload_n 0, 1), (33, .aload_n 1, 1), (34, .getfield 18, 3), (37, .putfield 18, 3), (40, .return_, 1)]
set_option maxRecDepth 100000 in
theorem dk_Strip_copyFrom : ∀ q ∈ dl_Strip_copyFrom, decode prog_11_method_9_code q.1 = .ok q.2 := by decide +kernel
abbrev rm_Strip_copyFrom : Room := { frames := 1, cells := 0, slots := 0, locals := 26 }
theorem cw_Strip_copyFrom : CWV y_Strip_copyFrom prog_11_method_9_code 2 none 1 := ⟨⟨g_3_85, g_1_2, by decide, by decide, by decide +kernel⟩, g_3_83, g_3_84⟩
set_option maxHeartbeats 4000000 in
set_option maxRecDepth 100000 in
theorem c_Strip_copyFrom (v0 : Nat) (ho_v0 : kd v0 = 1) (v1 : Nat) (ho_v1 : kd v1 = 1) : MV y_Strip_copyFrom rm_Strip_copyFrom prog_11_method_9_code 2 (fun a => [.ref (a v0), .ref (a v1)]) (Strip_copyFrom v0 v1) := by
  refine mv_of (by decide) (fun _ => le_ rfl) ?_
  intro k res σ C hR hRm hnL h
  unfold Strip_copyFrom at h
  show WW k 0 [(0, .ref (ad k v0)), (1, .ref (ad k v1))] [] σ
  refine ww_aload_n C 1 rfl rfl (dq dk_Strip_copyFrom 0 rfl) ?_
  refine ww_getr C ko_Strip 0 ho_v1 (lt_ rfl) g_1_36 rfl rfl (dq dk_Strip_copyFrom 1 rfl) ?_
  refine ww_iconst C (dq dk_Strip_copyFrom 2 rfl) ic_0 ?_
  refine ww_aload_n C 0 rfl rfl (dq dk_Strip_copyFrom 3 rfl) ?_
  refine ww_getr C ko_Strip 0 ho_v0 (lt_ rfl) g_1_36 rfl rfl (dq dk_Strip_copyFrom 4 rfl) ?_
  refine ww_iconst C (dq dk_Strip_copyFrom 5 rfl) ic_0 ?_
  refine ww_sipush C (dq dk_Strip_copyFrom 6 rfl) sp_1100 ?_
  refine ww_copy C (kc_Strip_0 _ ho_v1).1 (kc_Strip_0 _ ho_v1).2 (kc_Strip_0 _ ho_v0).1 (kc_Strip_0 _ ho_v0).2 g_3_86 g_3_88 g_3_87 g_1_14 (by rw [hRm]; exact ⟨le_ rfl, le_ rfl⟩) (dq dk_Strip_copyFrom 7 rfl) h (fun σ1 h => ?_)
  refine ww_aload_n C 1 rfl rfl (dq dk_Strip_copyFrom 8 rfl) ?_
  refine ww_getr C ko_Strip 1 ho_v1 (lt_ rfl) g_1_38 rfl rfl (dq dk_Strip_copyFrom 9 rfl) ?_
  refine ww_iconst C (dq dk_Strip_copyFrom 10 rfl) ic_0 ?_
  refine ww_aload_n C 0 rfl rfl (dq dk_Strip_copyFrom 11 rfl) ?_
  refine ww_getr C ko_Strip 1 ho_v0 (lt_ rfl) g_1_38 rfl rfl (dq dk_Strip_copyFrom 12 rfl) ?_
  refine ww_iconst C (dq dk_Strip_copyFrom 13 rfl) ic_0 ?_
  refine ww_sipush C (dq dk_Strip_copyFrom 14 rfl) sp_1100 ?_
  refine ww_copy C (kc_Strip_1 _ ho_v1).1 (kc_Strip_1 _ ho_v1).2 (kc_Strip_1 _ ho_v0).1 (kc_Strip_1 _ ho_v0).2 g_3_86 g_3_88 g_3_87 g_1_14 (by rw [hRm]; exact ⟨le_ rfl, le_ rfl⟩) (dq dk_Strip_copyFrom 15 rfl) h (fun σ2 h => ?_)
  refine ww_aload_n C 0 rfl rfl (dq dk_Strip_copyFrom 16 rfl) ?_
  refine ww_aload_n C 1 rfl rfl (dq dk_Strip_copyFrom 17 rfl) ?_
  refine ww_geti C ko_Strip 2 ho_v1 (lt_ rfl) g_1_41 rfl rfl (dq dk_Strip_copyFrom 18 rfl) ?_
  refine ww_puti C ko_Strip 2 ho_v0 (lt_ rfl) g_1_41 rfl rfl rfl rfl (dq dk_Strip_copyFrom 19 rfl) h (fun σ3 h => ?_)
  exact ww_vret C hR (dq dk_Strip_copyFrom 20 rfl) h
abbrev y_Instruction_fill : MethodName := ⟨"BundleHouse$Instruction", "fill", "(IIIIII)V"⟩
def dl_Instruction_fill : List (Nat × Instr × Nat) := [(0, .aload_n 0, 1), (1, .iload_n 1, 1), (2, .putfield 7, 3), (5, .aload_n 0, 1), (6, .iload_n 2, 1), (7, .putfield 13, 3), (10, .aload_n 0, 1), (11, .iload_n 3, 1), (12, .putfield 16, 3), (15, .aload_n 0, 1), (16, .iload 4, 2), (18, .putfield 19, 3), (21, .aload_n 0, 1), (22, .iload 5, 2), (24, .putfield 22, 3), (27, .aload_n 0, 1), (28, .iload 6, 2), (30, .putfield 25, 3), (33, .return_, 1)]
set_option maxRecDepth 100000 in
theorem dk_Instruction_fill : ∀ q ∈ dl_Instruction_fill, decode prog_4_method_2_code q.1 = .ok q.2 := by decide +kernel
abbrev rm_Instruction_fill : Room := { frames := 0, cells := 0, slots := 0, locals := 0 }
theorem cw_Instruction_fill : CWV y_Instruction_fill prog_4_method_2_code 7 none 6 := ⟨⟨g_2_239, g_1_5, by decide, by decide, by decide +kernel⟩, g_2_237, g_2_238⟩
set_option maxHeartbeats 4000000 in
set_option maxRecDepth 100000 in
theorem c_Instruction_fill (v0 : Nat) (ho_v0 : kd v0 = 4) (v1 : Int32) (v2 : Int32) (v3 : Int32) (v4 : Int32) (v5 : Int32) (v6 : Int32) : MV y_Instruction_fill rm_Instruction_fill prog_4_method_2_code 7 (fun a => [.ref (a v0), .int v1, .int v2, .int v3, .int v4, .int v5, .int v6]) (Instruction_fill v0 v1 v2 v3 v4 v5 v6) := by
  refine mv_of (by decide) (fun _ => le_ rfl) ?_
  intro k res σ C hR hRm hnL h
  unfold Instruction_fill at h
  show WW k 0 [(0, .ref (ad k v0)), (1, .int v1), (2, .int v2), (3, .int v3), (4, .int v4), (5, .int v5), (6, .int v6)] [] σ
  refine ww_aload_n C 0 rfl rfl (dq dk_Instruction_fill 0 rfl) ?_
  refine ww_iload_n C 1 rfl rfl (dq dk_Instruction_fill 1 rfl) ?_
  refine ww_puti C ko_Instruction 0 ho_v0 (lt_ rfl) g_1_70 rfl rfl rfl rfl (dq dk_Instruction_fill 2 rfl) h (fun σ1 h => ?_)
  refine ww_aload_n C 0 rfl rfl (dq dk_Instruction_fill 3 rfl) ?_
  refine ww_iload_n C 2 rfl rfl (dq dk_Instruction_fill 4 rfl) ?_
  refine ww_puti C ko_Instruction 1 ho_v0 (lt_ rfl) g_1_77 rfl rfl rfl rfl (dq dk_Instruction_fill 5 rfl) h (fun σ2 h => ?_)
  refine ww_aload_n C 0 rfl rfl (dq dk_Instruction_fill 6 rfl) ?_
  refine ww_iload_n C 3 rfl rfl (dq dk_Instruction_fill 7 rfl) ?_
  refine ww_puti C ko_Instruction 2 ho_v0 (lt_ rfl) g_1_83 rfl rfl rfl rfl (dq dk_Instruction_fill 8 rfl) h (fun σ3 h => ?_)
  refine ww_aload_n C 0 rfl rfl (dq dk_Instruction_fill 9 rfl) ?_
  refine ww_iload C 4 rfl (dq dk_Instruction_fill 10 rfl) ?_
  refine ww_puti C ko_Instruction 3 ho_v0 (lt_ rfl) g_1_89 rfl rfl rfl rfl (dq dk_Instruction_fill 11 rfl) h (fun σ4 h => ?_)
  refine ww_aload_n C 0 rfl rfl (dq dk_Instruction_fill 12 rfl) ?_
  refine ww_iload C 5 rfl (dq dk_Instruction_fill 13 rfl) ?_
  refine ww_puti C ko_Instruction 4 ho_v0 (lt_ rfl) g_1_93 rfl rfl rfl rfl (dq dk_Instruction_fill 14 rfl) h (fun σ5 h => ?_)
  refine ww_aload_n C 0 rfl rfl (dq dk_Instruction_fill 15 rfl) ?_
  refine ww_iload C 6 rfl (dq dk_Instruction_fill 16 rfl) ?_
  refine ww_puti C ko_Instruction 5 ho_v0 (lt_ rfl) g_1_97 rfl rfl rfl rfl (dq dk_Instruction_fill 17 rfl) h (fun σ6 h => ?_)
  exact ww_vret C hR (dq dk_Instruction_fill 18 rfl) h
abbrev y_Instruction_base : MethodName := ⟨"BundleHouse$Instruction", "base", "()I"⟩
def dl_Instruction_base : List (Nat × Instr × Nat) := [(0, .aload_n 0, 1), (1, .getfield 19, 3), (4, .bipush 15, 2), (6, .iand, 1), (7, .ireturn, 1)]
set_option maxRecDepth 100000 in
theorem dk_Instruction_base : ∀ q ∈ dl_Instruction_base, decode prog_4_method_3_code q.1 = .ok q.2 := by decide +kernel
abbrev rm_Instruction_base : Room := { frames := 0, cells := 0, slots := 0, locals := 0 }
theorem cw_Instruction_base : CWV y_Instruction_base prog_4_method_3_code 1 (some .int) 0 := ⟨⟨g_3_222, g_1_5, by decide, by decide, by decide +kernel⟩, g_3_220, g_3_221⟩
set_option maxHeartbeats 4000000 in
set_option maxRecDepth 100000 in
theorem c_Instruction_base (v0 : Nat) (ho_v0 : kd v0 = 4) : MI y_Instruction_base rm_Instruction_base prog_4_method_3_code 1 .int (fun a => [.ref (a v0)]) (Instruction_base v0) := by
  refine mi_of (by decide) (fun _ => le_ rfl) ?_
  intro k res σ C hR hRm hnL h
  unfold Instruction_base at h
  show WW k 0 [(0, .ref (ad k v0))] [] σ
  refine ww_aload_n C 0 rfl rfl (dq dk_Instruction_base 0 rfl) ?_
  refine ww_geti C ko_Instruction 3 ho_v0 (lt_ rfl) g_1_89 rfl rfl (dq dk_Instruction_base 1 rfl) ?_
  refine ww_bipush C (dq dk_Instruction_base 2 rfl) bp_15 ?_
  refine ww_iand C (dq dk_Instruction_base 3 rfl) ?_
  exact ww_iret C hR (dq dk_Instruction_base 4 rfl) h
abbrev y_Instruction_index : MethodName := ⟨"BundleHouse$Instruction", "index", "()I"⟩
def dl_Instruction_index : List (Nat × Instr × Nat) := [(0, .aload_n 0, 1), (1, .getfield 19, 3), (4, .iconst 4, 1), (5, .ishr, 1), (6, .bipush 15, 2), (8, .iand, 1), (9, .ireturn, 1)]
set_option maxRecDepth 100000 in
theorem dk_Instruction_index : ∀ q ∈ dl_Instruction_index, decode prog_4_method_4_code q.1 = .ok q.2 := by decide +kernel
abbrev rm_Instruction_index : Room := { frames := 0, cells := 0, slots := 0, locals := 0 }
theorem cw_Instruction_index : CWV y_Instruction_index prog_4_method_4_code 1 (some .int) 0 := ⟨⟨g_3_226, g_1_5, by decide, by decide, by decide +kernel⟩, g_3_224, g_3_225⟩
set_option maxHeartbeats 4000000 in
set_option maxRecDepth 100000 in
theorem c_Instruction_index (v0 : Nat) (ho_v0 : kd v0 = 4) : MI y_Instruction_index rm_Instruction_index prog_4_method_4_code 1 .int (fun a => [.ref (a v0)]) (Instruction_index v0) := by
  refine mi_of (by decide) (fun _ => le_ rfl) ?_
  intro k res σ C hR hRm hnL h
  unfold Instruction_index at h
  show WW k 0 [(0, .ref (ad k v0))] [] σ
  refine ww_aload_n C 0 rfl rfl (dq dk_Instruction_index 0 rfl) ?_
  refine ww_geti C ko_Instruction 3 ho_v0 (lt_ rfl) g_1_89 rfl rfl (dq dk_Instruction_index 1 rfl) ?_
  refine ww_iconst C (dq dk_Instruction_index 2 rfl) ic_4 ?_
  refine ww_ishr C (dq dk_Instruction_index 3 rfl) ?_
  refine ww_bipush C (dq dk_Instruction_index 4 rfl) bp_15 ?_
  refine ww_iand C (dq dk_Instruction_index 5 rfl) ?_
  exact ww_iret C hR (dq dk_Instruction_index 6 rfl) h
abbrev y_Instruction_scale : MethodName := ⟨"BundleHouse$Instruction", "scale", "()I"⟩
def dl_Instruction_scale : List (Nat × Instr × Nat) := [(0, .aload_n 0, 1), (1, .getfield 19, 3), (4, .bipush 8, 2), (6, .ishr, 1), (7, .iconst 3, 1), (8, .iand, 1), (9, .ireturn, 1)]
set_option maxRecDepth 100000 in
theorem dk_Instruction_scale : ∀ q ∈ dl_Instruction_scale, decode prog_4_method_5_code q.1 = .ok q.2 := by decide +kernel
abbrev rm_Instruction_scale : Room := { frames := 0, cells := 0, slots := 0, locals := 0 }
theorem cw_Instruction_scale : CWV y_Instruction_scale prog_4_method_5_code 1 (some .int) 0 := ⟨⟨g_3_230, g_1_5, by decide, by decide, by decide +kernel⟩, g_3_228, g_3_229⟩
set_option maxHeartbeats 4000000 in
set_option maxRecDepth 100000 in
theorem c_Instruction_scale (v0 : Nat) (ho_v0 : kd v0 = 4) : MI y_Instruction_scale rm_Instruction_scale prog_4_method_5_code 1 .int (fun a => [.ref (a v0)]) (Instruction_scale v0) := by
  refine mi_of (by decide) (fun _ => le_ rfl) ?_
  intro k res σ C hR hRm hnL h
  unfold Instruction_scale at h
  show WW k 0 [(0, .ref (ad k v0))] [] σ
  refine ww_aload_n C 0 rfl rfl (dq dk_Instruction_scale 0 rfl) ?_
  refine ww_geti C ko_Instruction 3 ho_v0 (lt_ rfl) g_1_89 rfl rfl (dq dk_Instruction_scale 1 rfl) ?_
  refine ww_bipush C (dq dk_Instruction_scale 2 rfl) bp_8 ?_
  refine ww_ishr C (dq dk_Instruction_scale 3 rfl) ?_
  refine ww_iconst C (dq dk_Instruction_scale 4 rfl) ic_3 ?_
  refine ww_iand C (dq dk_Instruction_scale 5 rfl) ?_
  exact ww_iret C hR (dq dk_Instruction_scale 6 rfl) h
abbrev y_Instruction_part : MethodName := ⟨"BundleHouse$Instruction", "part", "(I)I"⟩
def dl_Instruction_part : List (Nat × Instr × Nat) := [(0, .iload_n 1, 1), (1, .tableswitch 69 0 5 #[39, 44, 49, 54, 59, 64], 39), (40, .aload_n 0, 1), (41, .getfield 28, 3), (44, .ireturn, 1), (45, .aload_n 0, 1), (46, .getfield 7, 3), (49, .ireturn, 1), (50, .aload_n 0, 1), (51, .getfield 13, 3), (54, .ireturn, 1), (55, .aload_n 0, 1), (56, .getfield 16, 3), (59, .ireturn, 1), (60, .aload_n 0, 1), (61, .getfield 19, 3), (64, .ireturn, 1), (65, .aload_n 0, 1), (66, .getfield 22, 3), (69, .ireturn, 1), (70, .aload_n 0, 1), (71, .getfield 25, 3), (74, .ireturn, 1)]
set_option maxRecDepth 100000 in
theorem dk_Instruction_part : ∀ q ∈ dl_Instruction_part, decode prog_4_method_6_code q.1 = .ok q.2 := by decide +kernel
abbrev rm_Instruction_part : Room := { frames := 0, cells := 0, slots := 0, locals := 0 }
theorem cw_Instruction_part : CWV y_Instruction_part prog_4_method_6_code 2 (some .int) 1 := ⟨⟨g_4_237, g_1_5, by decide, by decide, by decide +kernel⟩, g_4_235, g_4_236⟩
set_option maxHeartbeats 4000000 in
set_option maxRecDepth 100000 in
theorem c_Instruction_part (v0 : Nat) (ho_v0 : kd v0 = 4) (v1 : Int32) : MI y_Instruction_part rm_Instruction_part prog_4_method_6_code 2 .int (fun a => [.ref (a v0), .int v1]) (Instruction_part v0 v1) := by
  refine mi_of (by decide) (fun _ => le_ rfl) ?_
  intro k res σ C hR hRm hnL h
  unfold Instruction_part at h
  show WW k 0 [(0, .ref (ad k v0)), (1, .int v1)] [] σ
  refine ww_iload_n C 1 rfl rfl (dq dk_Instruction_part 0 rfl) ?_
  by_cases e0_0 : v1 = 0
  · rw [if_pos e0_0] at h
    refine ww_tabIn C 40 (dq dk_Instruction_part 1 rfl) (by rw [e0_0]; decide) (by rw [e0_0]; decide) (by rw [e0_0]; rfl) (by decide) ?_
    refine ww_aload_n C 0 rfl rfl (dq dk_Instruction_part 2 rfl) ?_
    refine ww_geti C ko_Instruction 6 ho_v0 (lt_ rfl) g_1_106 rfl rfl (dq dk_Instruction_part 3 rfl) ?_
    exact ww_iret C hR (dq dk_Instruction_part 4 rfl) h
  rw [if_neg e0_0] at h
  by_cases e1_1 : v1 = 1
  · rw [if_pos e1_1] at h
    refine ww_tabIn C 45 (dq dk_Instruction_part 1 rfl) (by rw [e1_1]; decide) (by rw [e1_1]; decide) (by rw [e1_1]; rfl) (by decide) ?_
    refine ww_aload_n C 0 rfl rfl (dq dk_Instruction_part 5 rfl) ?_
    refine ww_geti C ko_Instruction 0 ho_v0 (lt_ rfl) g_1_70 rfl rfl (dq dk_Instruction_part 6 rfl) ?_
    exact ww_iret C hR (dq dk_Instruction_part 7 rfl) h
  rw [if_neg e1_1] at h
  by_cases e2_2 : v1 = 2
  · rw [if_pos e2_2] at h
    refine ww_tabIn C 50 (dq dk_Instruction_part 1 rfl) (by rw [e2_2]; decide) (by rw [e2_2]; decide) (by rw [e2_2]; rfl) (by decide) ?_
    refine ww_aload_n C 0 rfl rfl (dq dk_Instruction_part 8 rfl) ?_
    refine ww_geti C ko_Instruction 1 ho_v0 (lt_ rfl) g_1_77 rfl rfl (dq dk_Instruction_part 9 rfl) ?_
    exact ww_iret C hR (dq dk_Instruction_part 10 rfl) h
  rw [if_neg e2_2] at h
  by_cases e3_3 : v1 = 3
  · rw [if_pos e3_3] at h
    refine ww_tabIn C 55 (dq dk_Instruction_part 1 rfl) (by rw [e3_3]; decide) (by rw [e3_3]; decide) (by rw [e3_3]; rfl) (by decide) ?_
    refine ww_aload_n C 0 rfl rfl (dq dk_Instruction_part 11 rfl) ?_
    refine ww_geti C ko_Instruction 2 ho_v0 (lt_ rfl) g_1_83 rfl rfl (dq dk_Instruction_part 12 rfl) ?_
    exact ww_iret C hR (dq dk_Instruction_part 13 rfl) h
  rw [if_neg e3_3] at h
  by_cases e4_4 : v1 = 4
  · rw [if_pos e4_4] at h
    refine ww_tabIn C 60 (dq dk_Instruction_part 1 rfl) (by rw [e4_4]; decide) (by rw [e4_4]; decide) (by rw [e4_4]; rfl) (by decide) ?_
    refine ww_aload_n C 0 rfl rfl (dq dk_Instruction_part 14 rfl) ?_
    refine ww_geti C ko_Instruction 3 ho_v0 (lt_ rfl) g_1_89 rfl rfl (dq dk_Instruction_part 15 rfl) ?_
    exact ww_iret C hR (dq dk_Instruction_part 16 rfl) h
  rw [if_neg e4_4] at h
  by_cases e5_5 : v1 = 5
  · rw [if_pos e5_5] at h
    refine ww_tabIn C 65 (dq dk_Instruction_part 1 rfl) (by rw [e5_5]; decide) (by rw [e5_5]; decide) (by rw [e5_5]; rfl) (by decide) ?_
    refine ww_aload_n C 0 rfl rfl (dq dk_Instruction_part 17 rfl) ?_
    refine ww_geti C ko_Instruction 4 ho_v0 (lt_ rfl) g_1_93 rfl rfl (dq dk_Instruction_part 18 rfl) ?_
    exact ww_iret C hR (dq dk_Instruction_part 19 rfl) h
  rw [if_neg e5_5] at h
  have ne0_0 := lv_neT (a := 0) e0_0 (by decide)
  have ne1_1 := lv_neT (a := 1) e1_1 (by decide)
  have ne2_2 := lv_neT (a := 2) e2_2 (by decide)
  have ne3_3 := lv_neT (a := 3) e3_3 (by decide)
  have ne4_4 := lv_neT (a := 4) e4_4 (by decide)
  have ne5_5 := lv_neT (a := 5) e5_5 (by decide)
  refine ww_tabOut C 70 (dq dk_Instruction_part 1 rfl) (by omega) (by decide) ?_
  refine ww_aload_n C 0 rfl rfl (dq dk_Instruction_part 20 rfl) ?_
  refine ww_geti C ko_Instruction 5 ho_v0 (lt_ rfl) g_1_97 rfl rfl (dq dk_Instruction_part 21 rfl) ?_
  exact ww_iret C hR (dq dk_Instruction_part 22 rfl) h
abbrev y_Reader_groupOp : MethodName := ⟨"BundleHouse$Reader", "groupOp", "(I)I"⟩
def dl_Reader_groupOp : List (Nat × Instr × Nat) := [(0, .iload_n 1, 1), (1, .lookupswitch 166 #[(193, 43), (199, 85), (247, 99), (255, 129)], 43), (44, .aload_n 0, 1), (45, .getfield 113, 3), (48, .iconst 4, 1), (49, .if_icmp .eq 11, 3), (52, .aload_n 0, 1), (53, .getfield 113, 3), (56, .iconst 5, 1), (57, .if_icmp .ne 13, 3), (60, .bipush 14, 2), (62, .aload_n 0, 1), (63, .getfield 113, 3), (66, .iadd, 1), (67, .iconst 4, 1), (68, .isub, 1), (69, .ireturn, 1), (70, .aload_n 0, 1), (71, .getfield 113, 3), (74, .bipush 7, 2), (76, .if_icmp .ne 8, 3), (79, .bipush 16, 2), (81, .goto 4, 3), (84, .iconst (-1), 1), (85, .ireturn, 1), (86, .aload_n 0, 1), (87, .getfield 113, 3), (90, .ifCond .ne 8, 3), (93, .bipush 8, 2), (95, .goto 4, 3), (98, .iconst (-1), 1), (99, .ireturn, 1), (100, .aload_n 0, 1), (101, .getfield 113, 3), (104, .iconst 2, 1), (105, .if_icmp .eq 11, 3), (108, .aload_n 0, 1), (109, .getfield 113, 3), (112, .iconst 3, 1), (113, .if_icmp .ne 15, 3), (116, .bipush 12, 2), (118, .aload_n 0, 1), (119, .getfield 113, 3), (122, .iadd, 1), (123, .iconst 2, 1), (124, .isub, 1), (125, .goto 4, 3), (128, .iconst (-1), 1), (129, .ireturn, 1), (130, .aload_n 0, 1), (131, .getfield 119, 3), (134, .ifCond .ne 5, 3), (137, .iconst (-1), 1), (138, .ireturn, 1), (139, .aload_n 0, 1), (140, .getfield 113, 3), (143, .iconst 4, 1), (144, .if_icmp .ne 8, 3), (147, .bipush 27, 2), (149, .goto 17, 3), (152, .aload_n 0, 1), (153, .getfield 113, 3), (156, .iconst 2, 1), (157, .if_icmp .ne 8, 3), (160, .bipush 28, 2), (162, .goto 4, 3), (165, .iconst (-1), 1), (166, .ireturn, 1), (167, .aload_n 0, 1), (168, .getfield 113, 3), (171, .ireturn, 1)]
set_option maxRecDepth 100000 in
theorem dk_Reader_groupOp : ∀ q ∈ dl_Reader_groupOp, decode prog_9_method_14_code q.1 = .ok q.2 := by decide +kernel
abbrev rm_Reader_groupOp : Room := { frames := 0, cells := 0, slots := 0, locals := 0 }
theorem cw_Reader_groupOp : CWV y_Reader_groupOp prog_9_method_14_code 2 (some .int) 1 := ⟨⟨g_3_46, g_1_4, by decide, by decide, by decide +kernel⟩, g_3_45, gs_1_11⟩
set_option maxHeartbeats 4000000 in
set_option maxRecDepth 100000 in
theorem c_Reader_groupOp (v0 : Nat) (ho_v0 : kd v0 = 3) (v1 : Int32) : MI y_Reader_groupOp rm_Reader_groupOp prog_9_method_14_code 2 .int (fun a => [.ref (a v0), .int v1]) (Reader_groupOp v0 v1) := by
  refine mi_of (by decide) (fun _ => le_ rfl) ?_
  intro k res σ C hR hRm hnL h
  unfold Reader_groupOp at h
  show WW k 0 [(0, .ref (ad k v0)), (1, .int v1)] [] σ
  refine ww_iload_n C 1 rfl rfl (dq dk_Reader_groupOp 0 rfl) ?_
  by_cases e0_193 : v1 = 193
  · rw [if_pos e0_193] at h
    refine ww_lookup (off := 43) C 44 (dq dk_Reader_groupOp 1 rfl) (by decide) (by rw [e0_193] <;> rfl) (by decide) ?_
    refine ww_aload_n C 0 rfl rfl (dq dk_Reader_groupOp 2 rfl) ?_
    refine ww_geti C ko_Reader 8 ho_v0 (lt_ rfl) g_1_133 rfl rfl (dq dk_Reader_groupOp 3 rfl) ?_
    refine ww_iconst C (dq dk_Reader_groupOp 4 rfl) ic_4 ?_
    refine ww_icmp_eq C 60 (dq dk_Reader_groupOp 5 rfl) (by decide) h (fun h => ?_) (fun h => ?_)
    · refine ww_bipush C (dq dk_Reader_groupOp 10 rfl) bp_14 ?_
      refine ww_aload_n C 0 rfl rfl (dq dk_Reader_groupOp 11 rfl) ?_
      refine ww_geti C ko_Reader 8 ho_v0 (lt_ rfl) g_1_133 rfl rfl (dq dk_Reader_groupOp 12 rfl) ?_
      refine ww_iadd C (dq dk_Reader_groupOp 13 rfl) ?_
      refine ww_iconst C (dq dk_Reader_groupOp 14 rfl) ic_4 ?_
      refine ww_isub C (dq dk_Reader_groupOp 15 rfl) ?_
      exact ww_iret C hR (dq dk_Reader_groupOp 16 rfl) h
    · refine ww_aload_n C 0 rfl rfl (dq dk_Reader_groupOp 6 rfl) ?_
      refine ww_geti C ko_Reader 8 ho_v0 (lt_ rfl) g_1_133 rfl rfl (dq dk_Reader_groupOp 7 rfl) ?_
      refine ww_iconst C (dq dk_Reader_groupOp 8 rfl) ic_5 ?_
      refine ww_icmp_ne C 70 (dq dk_Reader_groupOp 9 rfl) (by decide) h (fun h => ?_) (fun h => ?_)
      · refine ww_aload_n C 0 rfl rfl (dq dk_Reader_groupOp 17 rfl) ?_
        refine ww_geti C ko_Reader 8 ho_v0 (lt_ rfl) g_1_133 rfl rfl (dq dk_Reader_groupOp 18 rfl) ?_
        refine ww_bipush C (dq dk_Reader_groupOp 19 rfl) bp_7 ?_
        refine ww_icmp_ne C 84 (dq dk_Reader_groupOp 20 rfl) (by decide) h (fun h => ?_) (fun h => ?_)
        · refine ww_iconst C (dq dk_Reader_groupOp 23 rfl) ic_m1 ?_
          exact ww_iret C hR (dq dk_Reader_groupOp 24 rfl) h
        · refine ww_bipush C (dq dk_Reader_groupOp 21 rfl) bp_16 ?_
          refine ww_goto C 85 (dq dk_Reader_groupOp 22 rfl) (by decide) ?_
          exact ww_iret C hR (dq dk_Reader_groupOp 24 rfl) h
      · refine ww_bipush C (dq dk_Reader_groupOp 10 rfl) bp_14 ?_
        refine ww_aload_n C 0 rfl rfl (dq dk_Reader_groupOp 11 rfl) ?_
        refine ww_geti C ko_Reader 8 ho_v0 (lt_ rfl) g_1_133 rfl rfl (dq dk_Reader_groupOp 12 rfl) ?_
        refine ww_iadd C (dq dk_Reader_groupOp 13 rfl) ?_
        refine ww_iconst C (dq dk_Reader_groupOp 14 rfl) ic_4 ?_
        refine ww_isub C (dq dk_Reader_groupOp 15 rfl) ?_
        exact ww_iret C hR (dq dk_Reader_groupOp 16 rfl) h
  rw [if_neg e0_193] at h
  by_cases e1_199 : v1 = 199
  · rw [if_pos e1_199] at h
    refine ww_lookup (off := 85) C 86 (dq dk_Reader_groupOp 1 rfl) (by decide) (by rw [e1_199] <;> rfl) (by decide) ?_
    refine ww_aload_n C 0 rfl rfl (dq dk_Reader_groupOp 25 rfl) ?_
    refine ww_geti C ko_Reader 8 ho_v0 (lt_ rfl) g_1_133 rfl rfl (dq dk_Reader_groupOp 26 rfl) ?_
    refine ww_if_ne C 98 (dq dk_Reader_groupOp 27 rfl) (by decide) h (fun h => ?_) (fun h => ?_)
    · refine ww_iconst C (dq dk_Reader_groupOp 30 rfl) ic_m1 ?_
      exact ww_iret C hR (dq dk_Reader_groupOp 31 rfl) h
    · refine ww_bipush C (dq dk_Reader_groupOp 28 rfl) bp_8 ?_
      refine ww_goto C 99 (dq dk_Reader_groupOp 29 rfl) (by decide) ?_
      exact ww_iret C hR (dq dk_Reader_groupOp 31 rfl) h
  rw [if_neg e1_199] at h
  by_cases e2_247 : v1 = 247
  · rw [if_pos e2_247] at h
    refine ww_lookup (off := 99) C 100 (dq dk_Reader_groupOp 1 rfl) (by decide) (by rw [e2_247] <;> rfl) (by decide) ?_
    refine ww_aload_n C 0 rfl rfl (dq dk_Reader_groupOp 32 rfl) ?_
    refine ww_geti C ko_Reader 8 ho_v0 (lt_ rfl) g_1_133 rfl rfl (dq dk_Reader_groupOp 33 rfl) ?_
    refine ww_iconst C (dq dk_Reader_groupOp 34 rfl) ic_2 ?_
    refine ww_icmp_eq C 116 (dq dk_Reader_groupOp 35 rfl) (by decide) h (fun h => ?_) (fun h => ?_)
    · refine ww_bipush C (dq dk_Reader_groupOp 40 rfl) bp_12 ?_
      refine ww_aload_n C 0 rfl rfl (dq dk_Reader_groupOp 41 rfl) ?_
      refine ww_geti C ko_Reader 8 ho_v0 (lt_ rfl) g_1_133 rfl rfl (dq dk_Reader_groupOp 42 rfl) ?_
      refine ww_iadd C (dq dk_Reader_groupOp 43 rfl) ?_
      refine ww_iconst C (dq dk_Reader_groupOp 44 rfl) ic_2 ?_
      refine ww_isub C (dq dk_Reader_groupOp 45 rfl) ?_
      refine ww_goto C 129 (dq dk_Reader_groupOp 46 rfl) (by decide) ?_
      exact ww_iret C hR (dq dk_Reader_groupOp 48 rfl) h
    · refine ww_aload_n C 0 rfl rfl (dq dk_Reader_groupOp 36 rfl) ?_
      refine ww_geti C ko_Reader 8 ho_v0 (lt_ rfl) g_1_133 rfl rfl (dq dk_Reader_groupOp 37 rfl) ?_
      refine ww_iconst C (dq dk_Reader_groupOp 38 rfl) ic_3 ?_
      refine ww_icmp_ne C 128 (dq dk_Reader_groupOp 39 rfl) (by decide) h (fun h => ?_) (fun h => ?_)
      · refine ww_iconst C (dq dk_Reader_groupOp 47 rfl) ic_m1 ?_
        exact ww_iret C hR (dq dk_Reader_groupOp 48 rfl) h
      · refine ww_bipush C (dq dk_Reader_groupOp 40 rfl) bp_12 ?_
        refine ww_aload_n C 0 rfl rfl (dq dk_Reader_groupOp 41 rfl) ?_
        refine ww_geti C ko_Reader 8 ho_v0 (lt_ rfl) g_1_133 rfl rfl (dq dk_Reader_groupOp 42 rfl) ?_
        refine ww_iadd C (dq dk_Reader_groupOp 43 rfl) ?_
        refine ww_iconst C (dq dk_Reader_groupOp 44 rfl) ic_2 ?_
        refine ww_isub C (dq dk_Reader_groupOp 45 rfl) ?_
        refine ww_goto C 129 (dq dk_Reader_groupOp 46 rfl) (by decide) ?_
        exact ww_iret C hR (dq dk_Reader_groupOp 48 rfl) h
  rw [if_neg e2_247] at h
  by_cases e3_255 : v1 = 255
  · rw [if_pos e3_255] at h
    refine ww_lookup (off := 129) C 130 (dq dk_Reader_groupOp 1 rfl) (by decide) (by rw [e3_255] <;> rfl) (by decide) ?_
    refine ww_aload_n C 0 rfl rfl (dq dk_Reader_groupOp 49 rfl) ?_
    refine ww_geti C ko_Reader 7 ho_v0 (lt_ rfl) g_1_132 rfl rfl (dq dk_Reader_groupOp 50 rfl) ?_
    refine ww_if_ne C 139 (dq dk_Reader_groupOp 51 rfl) (by decide) h (fun h => ?_) (fun h => ?_)
    · refine ww_aload_n C 0 rfl rfl (dq dk_Reader_groupOp 54 rfl) ?_
      refine ww_geti C ko_Reader 8 ho_v0 (lt_ rfl) g_1_133 rfl rfl (dq dk_Reader_groupOp 55 rfl) ?_
      refine ww_iconst C (dq dk_Reader_groupOp 56 rfl) ic_4 ?_
      refine ww_icmp_ne C 152 (dq dk_Reader_groupOp 57 rfl) (by decide) h (fun h => ?_) (fun h => ?_)
      · refine ww_aload_n C 0 rfl rfl (dq dk_Reader_groupOp 60 rfl) ?_
        refine ww_geti C ko_Reader 8 ho_v0 (lt_ rfl) g_1_133 rfl rfl (dq dk_Reader_groupOp 61 rfl) ?_
        refine ww_iconst C (dq dk_Reader_groupOp 62 rfl) ic_2 ?_
        refine ww_icmp_ne C 165 (dq dk_Reader_groupOp 63 rfl) (by decide) h (fun h => ?_) (fun h => ?_)
        · refine ww_iconst C (dq dk_Reader_groupOp 66 rfl) ic_m1 ?_
          exact ww_iret C hR (dq dk_Reader_groupOp 67 rfl) h
        · refine ww_bipush C (dq dk_Reader_groupOp 64 rfl) bp_28 ?_
          refine ww_goto C 166 (dq dk_Reader_groupOp 65 rfl) (by decide) ?_
          exact ww_iret C hR (dq dk_Reader_groupOp 67 rfl) h
      · refine ww_bipush C (dq dk_Reader_groupOp 58 rfl) bp_27 ?_
        refine ww_goto C 166 (dq dk_Reader_groupOp 59 rfl) (by decide) ?_
        exact ww_iret C hR (dq dk_Reader_groupOp 67 rfl) h
    · refine ww_iconst C (dq dk_Reader_groupOp 52 rfl) ic_m1 ?_
      exact ww_iret C hR (dq dk_Reader_groupOp 53 rfl) h
  rw [if_neg e3_255] at h
  have ne0_193 := lv_neT (a := 193) e0_193 (by decide)
  have ne1_199 := lv_neT (a := 199) e1_199 (by decide)
  have ne2_247 := lv_neT (a := 247) e2_247 (by decide)
  have ne3_255 := lv_neT (a := 255) e3_255 (by decide)
  refine ww_lookup (off := 166) C 167 (dq dk_Reader_groupOp 1 rfl) (by decide) (by show Op.lookupswitch.offset [(193, 43), (199, 85), (247, 99), (255, 129)] _ _ = _; rw [lv_osw (a := 193) e0_193 (by decide), lv_osw (a := 199) e1_199 (by decide), lv_osw (a := 247) e2_247 (by decide), lv_osw (a := 255) e3_255 (by decide)] <;> rfl) (by decide) ?_
  refine ww_aload_n C 0 rfl rfl (dq dk_Reader_groupOp 68 rfl) ?_
  refine ww_geti C ko_Reader 8 ho_v0 (lt_ rfl) g_1_133 rfl rfl (dq dk_Reader_groupOp 69 rfl) ?_
  exact ww_iret C hR (dq dk_Reader_groupOp 70 rfl) h
abbrev y_Reader_giveForm : MethodName := ⟨"BundleHouse$Reader", "giveForm", "(I)V"⟩
def dl_Reader_giveForm : List (Nat × Instr × Nat) := [(0, .aload_n 0, 1), (1, .getfield 30, 3), (4, .iconst 1, 1), (5, .if_icmp .ne 78, 3), (8, .aload_n 0, 1), (9, .getfield 12, 3), (12, .aload_n 0, 1), (13, .getfield 119, 3), (16, .ifCond .eq 7, 3), (19, .iconst 2, 1), (20, .goto 4, 3), (23, .iconst 4, 1), (24, .putfield 85, 3), (27, .aload_n 0, 1), (28, .getfield 12, 3), (31, .aload_n 0, 1), (32, .getfield 119, 3), (35, .ifCond .eq 10, 3), (38, .aload_n 0, 1), (39, .getfield 116, 3), (42, .goto 7, 3), (45, .aload_n 0, 1), (46, .getfield 113, 3), (49, .putfield 88, 3), (52, .aload_n 0, 1), (53, .getfield 12, 3), (56, .aload_n 0, 1), (57, .getfield 119, 3), (60, .ifCond .eq 10, 3), (63, .aload_n 0, 1), (64, .getfield 113, 3), (67, .goto 10, 3), (70, .aload_n 0, 1), (71, .getfield 12, 3), (74, .getfield 122, 3), (77, .putfield 122, 3), (80, .goto 215, 3), (83, .aload_n 0, 1), (84, .getfield 30, 3), (87, .iconst 2, 1), (88, .if_icmp .ne 99, 3), (91, .aload_n 0, 1), (92, .aload_n 0, 1), (93, .getfield 26, 3), (96, .ifCond .eq 26, 3), (99, .aload_n 0, 1), (100, .getfield 119, 3), (103, .ifCond .eq 15, 3), (106, .aload_n 0, 1), (107, .getfield 12, 3), (110, .getfield 82, 3), (113, .bipush 10, 2), (115, .if_icmp .eq 7, 3), (118, .iconst 1, 1), (119, .goto 4, 3), (122, .iconst 0, 1), (123, .putfield 26, 3), (126, .aload_n 0, 1), (127, .getfield 12, 3), (130, .aload_n 0, 1), (131, .getfield 119, 3), (134, .ifCond .eq 7, 3), (137, .iconst 2, 1), (138, .goto 4, 3), (141, .iconst 3, 1), (142, .putfield 85, 3), (145, .aload_n 0, 1), (146, .getfield 12, 3), (149, .aload_n 0, 1), (150, .getfield 113, 3), (153, .putfield 88, 3), (156, .aload_n 0, 1), (157, .getfield 12, 3), (160, .aload_n 0, 1), (161, .getfield 119, 3), (164, .ifCond .eq 10, 3), (167, .aload_n 0, 1), (168, .getfield 116, 3), (171, .goto 10, 3), (174, .aload_n 0, 1), (175, .getfield 12, 3), (178, .getfield 122, 3), (181, .putfield 122, 3), (184, .goto 111, 3), (187, .aload_n 0, 1), (188, .getfield 12, 3), (191, .aload_n 0, 1), (192, .iload_n 1, 1), (193, .invokevirtual 125, 3), (196, .putfield 82, 3), (199, .aload_n 0, 1), (200, .aload_n 0, 1), (201, .getfield 26, 3), (204, .ifCond .eq 18, 3), (207, .aload_n 0, 1), (208, .getfield 12, 3), (211, .getfield 82, 3), (214, .iconst (-1), 1), (215, .if_icmp .eq 7, 3), (218, .iconst 1, 1), (219, .goto 4, 3), (222, .iconst 0, 1), (223, .putfield 26, 3), (226, .aload_n 0, 1), (227, .getfield 33, 3), (230, .ifCond .ne 8, 3), (233, .bipush 7, 2), (235, .goto 5, 3), (238, .bipush 6, 2), (240, .istore_n 2, 1), (241, .aload_n 0, 1), (242, .getfield 33, 3), (245, .ifCond .ne 7, 3), (248, .iconst 1, 1), (249, .goto 4, 3), (252, .iconst 5, 1), (253, .istore_n 3, 1), (254, .aload_n 0, 1), (255, .getfield 12, 3), (258, .aload_n 0, 1), (259, .getfield 119, 3), (262, .ifCond .eq 7, 3), (265, .iload_n 3, 1), (266, .goto 4, 3), (269, .iload_n 2, 1), (270, .putfield 85, 3), (273, .aload_n 0, 1), (274, .getfield 12, 3), (277, .aload_n 0, 1), (278, .getfield 119, 3), (281, .ifCond .eq 10, 3), (284, .aload_n 0, 1), (285, .getfield 116, 3), (288, .goto 4, 3), (291, .iconst 0, 1), (292, .putfield 88, 3), (295, .return_, 1)]
set_option maxRecDepth 100000 in
theorem dk_Reader_giveForm : ∀ q ∈ dl_Reader_giveForm, decode prog_9_method_13_code q.1 = .ok q.2 := by decide +kernel
abbrev rm_Reader_giveForm : Room := { frames := 1, cells := 0, slots := 0, locals := 21 }
theorem cw_Reader_giveForm : CWV y_Reader_giveForm prog_9_method_13_code 4 none 1 := ⟨⟨g_3_42, g_1_4, by decide, by decide, by decide +kernel⟩, g_3_41, gs_1_10⟩
set_option maxHeartbeats 4000000 in
set_option maxRecDepth 100000 in
theorem t_Reader_giveForm_B49 {k : Cfg} {res : St} (C : Cx k prog_9_method_13_code "BundleHouse$Reader") (hR : RV k res) (hRm : k.2.2.2.1 = rm_Reader_giveForm) (hnL : k.2.2.2.2.2.2.2.2.2.2.2.1 = 4) (v0 : Nat) (t0 : Nat) (t1 : Int32) (ho_v0 : kd v0 = 3) (ho_t0 : kd t0 = 4) (σ : St) (h : Reader_giveForm_B49 v0 t0 t1 σ = some res) : WW k 49 [(0, .ref (ad k v0))] [.int t1, .ref (ad k t0)] σ := by
  unfold Reader_giveForm_B49 at h
  refine ww_puti C ko_Instruction 2 ho_t0 (lt_ rfl) g_1_85 rfl rfl rfl rfl (dq dk_Reader_giveForm 23 rfl) h (fun σ1 h => ?_)
  refine ww_aload_n C 0 rfl rfl (dq dk_Reader_giveForm 24 rfl) ?_
  refine ww_getr C ko_Reader 0 ho_v0 (lt_ rfl) g_1_122 rfl rfl (dq dk_Reader_giveForm 25 rfl) ?_
  refine ww_aload_n C 0 rfl rfl (dq dk_Reader_giveForm 26 rfl) ?_
  refine ww_geti C ko_Reader 7 ho_v0 (lt_ rfl) g_1_132 rfl rfl (dq dk_Reader_giveForm 27 rfl) ?_
  refine ww_if_eq C 70 (dq dk_Reader_giveForm 28 rfl) (by decide) h (fun h => ?_) (fun h => ?_)
  · refine ww_aload_n C 0 rfl rfl (dq dk_Reader_giveForm 32 rfl) ?_
    refine ww_getr C ko_Reader 0 ho_v0 (lt_ rfl) g_1_122 rfl rfl (dq dk_Reader_giveForm 33 rfl) ?_
    refine ww_geti C ko_Instruction 3 (kc_Reader_0 _ ho_v0) (lt_ rfl) g_1_90 rfl rfl (dq dk_Reader_giveForm 34 rfl) ?_
    refine ww_puti C ko_Instruction 3 (kc_Reader_0 _ ho_v0) (lt_ rfl) g_1_90 rfl rfl rfl rfl (dq dk_Reader_giveForm 35 rfl) h (fun σ2 h => ?_)
    refine ww_goto C 295 (dq dk_Reader_giveForm 36 rfl) (by decide) ?_
    exact ww_vret C hR (dq dk_Reader_giveForm 136 rfl) h
  · refine ww_aload_n C 0 rfl rfl (dq dk_Reader_giveForm 29 rfl) ?_
    refine ww_geti C ko_Reader 8 ho_v0 (lt_ rfl) g_1_133 rfl rfl (dq dk_Reader_giveForm 30 rfl) ?_
    refine ww_goto C 77 (dq dk_Reader_giveForm 31 rfl) (by decide) ?_
    refine ww_puti C ko_Instruction 3 (kc_Reader_0 _ ho_v0) (lt_ rfl) g_1_90 rfl rfl rfl rfl (dq dk_Reader_giveForm 35 rfl) h (fun σ3 h => ?_)
    refine ww_goto C 295 (dq dk_Reader_giveForm 36 rfl) (by decide) ?_
    exact ww_vret C hR (dq dk_Reader_giveForm 136 rfl) h
set_option maxHeartbeats 4000000 in
set_option maxRecDepth 100000 in
theorem t_Reader_giveForm_B24 {k : Cfg} {res : St} (C : Cx k prog_9_method_13_code "BundleHouse$Reader") (hR : RV k res) (hRm : k.2.2.2.1 = rm_Reader_giveForm) (hnL : k.2.2.2.2.2.2.2.2.2.2.2.1 = 4) (v0 : Nat) (t0 : Nat) (t1 : Int32) (ho_v0 : kd v0 = 3) (ho_t0 : kd t0 = 4) (σ : St) (h : Reader_giveForm_B24 v0 t0 t1 σ = some res) : WW k 24 [(0, .ref (ad k v0))] [.int t1, .ref (ad k t0)] σ := by
  unfold Reader_giveForm_B24 at h
  refine ww_puti C ko_Instruction 1 ho_t0 (lt_ rfl) g_1_78 rfl rfl rfl rfl (dq dk_Reader_giveForm 12 rfl) h (fun σ1 h => ?_)
  refine ww_aload_n C 0 rfl rfl (dq dk_Reader_giveForm 13 rfl) ?_
  refine ww_getr C ko_Reader 0 ho_v0 (lt_ rfl) g_1_122 rfl rfl (dq dk_Reader_giveForm 14 rfl) ?_
  refine ww_aload_n C 0 rfl rfl (dq dk_Reader_giveForm 15 rfl) ?_
  refine ww_geti C ko_Reader 7 ho_v0 (lt_ rfl) g_1_132 rfl rfl (dq dk_Reader_giveForm 16 rfl) ?_
  refine ww_if_eq C 45 (dq dk_Reader_giveForm 17 rfl) (by decide) h (fun h => ?_) (fun h => ?_)
  · refine ww_aload_n C 0 rfl rfl (dq dk_Reader_giveForm 21 rfl) ?_
    refine ww_geti C ko_Reader 8 ho_v0 (lt_ rfl) g_1_133 rfl rfl (dq dk_Reader_giveForm 22 rfl) ?_
    exact ww_lv [0] rfl (t_Reader_giveForm_B49 C hR hRm hnL v0 (ch v0 0) (σ1 v0 8) ho_v0 (kc_Reader_0 _ ho_v0) σ1 h)
  · refine ww_aload_n C 0 rfl rfl (dq dk_Reader_giveForm 18 rfl) ?_
    refine ww_geti C ko_Reader 9 ho_v0 (lt_ rfl) g_1_134 rfl rfl (dq dk_Reader_giveForm 19 rfl) ?_
    refine ww_goto C 49 (dq dk_Reader_giveForm 20 rfl) (by decide) ?_
    exact ww_lv [0] rfl (t_Reader_giveForm_B49 C hR hRm hnL v0 (ch v0 0) (σ1 v0 9) ho_v0 (kc_Reader_0 _ ho_v0) σ1 h)
set_option maxHeartbeats 4000000 in
set_option maxRecDepth 100000 in
theorem t_Reader_giveForm_B142 {k : Cfg} {res : St} (C : Cx k prog_9_method_13_code "BundleHouse$Reader") (hR : RV k res) (hRm : k.2.2.2.1 = rm_Reader_giveForm) (hnL : k.2.2.2.2.2.2.2.2.2.2.2.1 = 4) (v0 : Nat) (t0 : Nat) (t1 : Int32) (ho_v0 : kd v0 = 3) (ho_t0 : kd t0 = 4) (σ : St) (h : Reader_giveForm_B142 v0 t0 t1 σ = some res) : WW k 142 [(0, .ref (ad k v0))] [.int t1, .ref (ad k t0)] σ := by
  unfold Reader_giveForm_B142 at h
  refine ww_puti C ko_Instruction 1 ho_t0 (lt_ rfl) g_1_78 rfl rfl rfl rfl (dq dk_Reader_giveForm 65 rfl) h (fun σ1 h => ?_)
  refine ww_aload_n C 0 rfl rfl (dq dk_Reader_giveForm 66 rfl) ?_
  refine ww_getr C ko_Reader 0 ho_v0 (lt_ rfl) g_1_122 rfl rfl (dq dk_Reader_giveForm 67 rfl) ?_
  refine ww_aload_n C 0 rfl rfl (dq dk_Reader_giveForm 68 rfl) ?_
  refine ww_geti C ko_Reader 8 ho_v0 (lt_ rfl) g_1_133 rfl rfl (dq dk_Reader_giveForm 69 rfl) ?_
  refine ww_puti C ko_Instruction 2 (kc_Reader_0 _ ho_v0) (lt_ rfl) g_1_85 rfl rfl rfl rfl (dq dk_Reader_giveForm 70 rfl) h (fun σ2 h => ?_)
  refine ww_aload_n C 0 rfl rfl (dq dk_Reader_giveForm 71 rfl) ?_
  refine ww_getr C ko_Reader 0 ho_v0 (lt_ rfl) g_1_122 rfl rfl (dq dk_Reader_giveForm 72 rfl) ?_
  refine ww_aload_n C 0 rfl rfl (dq dk_Reader_giveForm 73 rfl) ?_
  refine ww_geti C ko_Reader 7 ho_v0 (lt_ rfl) g_1_132 rfl rfl (dq dk_Reader_giveForm 74 rfl) ?_
  refine ww_if_eq C 174 (dq dk_Reader_giveForm 75 rfl) (by decide) h (fun h => ?_) (fun h => ?_)
  · refine ww_aload_n C 0 rfl rfl (dq dk_Reader_giveForm 79 rfl) ?_
    refine ww_getr C ko_Reader 0 ho_v0 (lt_ rfl) g_1_122 rfl rfl (dq dk_Reader_giveForm 80 rfl) ?_
    refine ww_geti C ko_Instruction 3 (kc_Reader_0 _ ho_v0) (lt_ rfl) g_1_90 rfl rfl (dq dk_Reader_giveForm 81 rfl) ?_
    refine ww_puti C ko_Instruction 3 (kc_Reader_0 _ ho_v0) (lt_ rfl) g_1_90 rfl rfl rfl rfl (dq dk_Reader_giveForm 82 rfl) h (fun σ3 h => ?_)
    refine ww_goto C 295 (dq dk_Reader_giveForm 83 rfl) (by decide) ?_
    exact ww_vret C hR (dq dk_Reader_giveForm 136 rfl) h
  · refine ww_aload_n C 0 rfl rfl (dq dk_Reader_giveForm 76 rfl) ?_
    refine ww_geti C ko_Reader 9 ho_v0 (lt_ rfl) g_1_134 rfl rfl (dq dk_Reader_giveForm 77 rfl) ?_
    refine ww_goto C 181 (dq dk_Reader_giveForm 78 rfl) (by decide) ?_
    refine ww_puti C ko_Instruction 3 (kc_Reader_0 _ ho_v0) (lt_ rfl) g_1_90 rfl rfl rfl rfl (dq dk_Reader_giveForm 82 rfl) h (fun σ4 h => ?_)
    refine ww_goto C 295 (dq dk_Reader_giveForm 83 rfl) (by decide) ?_
    exact ww_vret C hR (dq dk_Reader_giveForm 136 rfl) h
set_option maxHeartbeats 4000000 in
set_option maxRecDepth 100000 in
theorem t_Reader_giveForm_B123 {k : Cfg} {res : St} (C : Cx k prog_9_method_13_code "BundleHouse$Reader") (hR : RV k res) (hRm : k.2.2.2.1 = rm_Reader_giveForm) (hnL : k.2.2.2.2.2.2.2.2.2.2.2.1 = 4) (v0 : Nat) (t0 : Nat) (t1 : Int32) (ho_v0 : kd v0 = 3) (ho_t0 : kd t0 = 3) (σ : St) (h : Reader_giveForm_B123 v0 t0 t1 σ = some res) : WW k 123 [(0, .ref (ad k v0))] [.int t1, .ref (ad k t0)] σ := by
  unfold Reader_giveForm_B123 at h
  refine ww_putz C ko_Reader 3 ho_t0 (lt_ rfl) g_1_128 rfl rfl rfl rfl (dq dk_Reader_giveForm 56 rfl) h (fun σ1 h => ?_)
  refine ww_aload_n C 0 rfl rfl (dq dk_Reader_giveForm 57 rfl) ?_
  refine ww_getr C ko_Reader 0 ho_v0 (lt_ rfl) g_1_122 rfl rfl (dq dk_Reader_giveForm 58 rfl) ?_
  refine ww_aload_n C 0 rfl rfl (dq dk_Reader_giveForm 59 rfl) ?_
  refine ww_geti C ko_Reader 7 ho_v0 (lt_ rfl) g_1_132 rfl rfl (dq dk_Reader_giveForm 60 rfl) ?_
  refine ww_if_eq C 141 (dq dk_Reader_giveForm 61 rfl) (by decide) h (fun h => ?_) (fun h => ?_)
  · refine ww_iconst C (dq dk_Reader_giveForm 64 rfl) ic_3 ?_
    exact ww_lv [0] rfl (t_Reader_giveForm_B142 C hR hRm hnL v0 (ch v0 0) 3 ho_v0 (kc_Reader_0 _ ho_v0) σ1 h)
  · refine ww_iconst C (dq dk_Reader_giveForm 62 rfl) ic_2 ?_
    refine ww_goto C 142 (dq dk_Reader_giveForm 63 rfl) (by decide) ?_
    exact ww_lv [0] rfl (t_Reader_giveForm_B142 C hR hRm hnL v0 (ch v0 0) 2 ho_v0 (kc_Reader_0 _ ho_v0) σ1 h)
set_option maxHeartbeats 4000000 in
set_option maxRecDepth 100000 in
theorem t_Reader_giveForm_B270 {k : Cfg} {res : St} (C : Cx k prog_9_method_13_code "BundleHouse$Reader") (hR : RV k res) (hRm : k.2.2.2.1 = rm_Reader_giveForm) (hnL : k.2.2.2.2.2.2.2.2.2.2.2.1 = 4) (v0 : Nat) (t0 : Nat) (t1 : Int32) (ho_v0 : kd v0 = 3) (ho_t0 : kd t0 = 4) (σ : St) (h : Reader_giveForm_B270 v0 t0 t1 σ = some res) : WW k 270 [(0, .ref (ad k v0))] [.int t1, .ref (ad k t0)] σ := by
  unfold Reader_giveForm_B270 at h
  refine ww_puti C ko_Instruction 1 ho_t0 (lt_ rfl) g_1_78 rfl rfl rfl rfl (dq dk_Reader_giveForm 125 rfl) h (fun σ1 h => ?_)
  refine ww_aload_n C 0 rfl rfl (dq dk_Reader_giveForm 126 rfl) ?_
  refine ww_getr C ko_Reader 0 ho_v0 (lt_ rfl) g_1_122 rfl rfl (dq dk_Reader_giveForm 127 rfl) ?_
  refine ww_aload_n C 0 rfl rfl (dq dk_Reader_giveForm 128 rfl) ?_
  refine ww_geti C ko_Reader 7 ho_v0 (lt_ rfl) g_1_132 rfl rfl (dq dk_Reader_giveForm 129 rfl) ?_
  refine ww_if_eq C 291 (dq dk_Reader_giveForm 130 rfl) (by decide) h (fun h => ?_) (fun h => ?_)
  · refine ww_iconst C (dq dk_Reader_giveForm 134 rfl) ic_0 ?_
    refine ww_puti C ko_Instruction 2 (kc_Reader_0 _ ho_v0) (lt_ rfl) g_1_85 rfl rfl rfl rfl (dq dk_Reader_giveForm 135 rfl) h (fun σ2 h => ?_)
    exact ww_vret C hR (dq dk_Reader_giveForm 136 rfl) h
  · refine ww_aload_n C 0 rfl rfl (dq dk_Reader_giveForm 131 rfl) ?_
    refine ww_geti C ko_Reader 9 ho_v0 (lt_ rfl) g_1_134 rfl rfl (dq dk_Reader_giveForm 132 rfl) ?_
    refine ww_goto C 292 (dq dk_Reader_giveForm 133 rfl) (by decide) ?_
    refine ww_puti C ko_Instruction 2 (kc_Reader_0 _ ho_v0) (lt_ rfl) g_1_85 rfl rfl rfl rfl (dq dk_Reader_giveForm 135 rfl) h (fun σ3 h => ?_)
    exact ww_vret C hR (dq dk_Reader_giveForm 136 rfl) h
set_option maxHeartbeats 4000000 in
set_option maxRecDepth 100000 in
theorem t_Reader_giveForm_B253 {k : Cfg} {res : St} (C : Cx k prog_9_method_13_code "BundleHouse$Reader") (hR : RV k res) (hRm : k.2.2.2.1 = rm_Reader_giveForm) (hnL : k.2.2.2.2.2.2.2.2.2.2.2.1 = 4) (v0 : Nat) (v2 : Int32) (t0 : Int32) (ho_v0 : kd v0 = 3) (σ : St) (h : Reader_giveForm_B253 v0 v2 t0 σ = some res) : WW k 253 [(0, .ref (ad k v0)), (2, .int v2)] [.int t0] σ := by
  unfold Reader_giveForm_B253 at h
  refine ww_istore_n C [(3, .int t0), (0, .ref (ad k v0)), (2, .int v2)] rfl hnL (lt_ rfl) rfl (dq dk_Reader_giveForm 116 rfl) ?_
  refine ww_aload_n C 1 rfl rfl (dq dk_Reader_giveForm 117 rfl) ?_
  refine ww_getr C ko_Reader 0 ho_v0 (lt_ rfl) g_1_122 rfl rfl (dq dk_Reader_giveForm 118 rfl) ?_
  refine ww_aload_n C 1 rfl rfl (dq dk_Reader_giveForm 119 rfl) ?_
  refine ww_geti C ko_Reader 7 ho_v0 (lt_ rfl) g_1_132 rfl rfl (dq dk_Reader_giveForm 120 rfl) ?_
  refine ww_if_eq C 269 (dq dk_Reader_giveForm 121 rfl) (by decide) h (fun h => ?_) (fun h => ?_)
  · refine ww_iload_n C 2 rfl rfl (dq dk_Reader_giveForm 124 rfl) ?_
    exact ww_lv [1] rfl (t_Reader_giveForm_B270 C hR hRm hnL v0 (ch v0 0) v2 ho_v0 (kc_Reader_0 _ ho_v0) σ h)
  · refine ww_iload_n C 0 rfl rfl (dq dk_Reader_giveForm 122 rfl) ?_
    refine ww_goto C 270 (dq dk_Reader_giveForm 123 rfl) (by decide) ?_
    exact ww_lv [1] rfl (t_Reader_giveForm_B270 C hR hRm hnL v0 (ch v0 0) t0 ho_v0 (kc_Reader_0 _ ho_v0) σ h)
set_option maxHeartbeats 4000000 in
set_option maxRecDepth 100000 in
theorem c_Reader_giveForm (v0 : Nat) (ho_v0 : kd v0 = 3) (v1 : Int32) : MV y_Reader_giveForm rm_Reader_giveForm prog_9_method_13_code 4 (fun a => [.ref (a v0), .int v1]) (Reader_giveForm v0 v1) := by
  refine mv_of (by decide) (fun _ => le_ rfl) ?_
  intro k res σ C hR hRm hnL h
  unfold Reader_giveForm at h
  show WW k 0 [(0, .ref (ad k v0)), (1, .int v1)] [] σ
  refine ww_aload_n C 0 rfl rfl (dq dk_Reader_giveForm 0 rfl) ?_
  refine ww_geti C ko_Reader 4 ho_v0 (lt_ rfl) g_1_129 rfl rfl (dq dk_Reader_giveForm 1 rfl) ?_
  refine ww_iconst C (dq dk_Reader_giveForm 2 rfl) ic_1 ?_
  refine ww_icmp_ne C 83 (dq dk_Reader_giveForm 3 rfl) (by decide) h (fun h => ?_) (fun h => ?_)
  · refine ww_aload_n C 0 rfl rfl (dq dk_Reader_giveForm 37 rfl) ?_
    refine ww_geti C ko_Reader 4 ho_v0 (lt_ rfl) g_1_129 rfl rfl (dq dk_Reader_giveForm 38 rfl) ?_
    refine ww_iconst C (dq dk_Reader_giveForm 39 rfl) ic_2 ?_
    refine ww_icmp_ne C 187 (dq dk_Reader_giveForm 40 rfl) (by decide) h (fun h => ?_) (fun h => ?_)
    · refine ww_aload_n C 0 rfl rfl (dq dk_Reader_giveForm 84 rfl) ?_
      refine ww_getr C ko_Reader 0 ho_v0 (lt_ rfl) g_1_122 rfl rfl (dq dk_Reader_giveForm 85 rfl) ?_
      refine ww_aload_n C 0 rfl rfl (dq dk_Reader_giveForm 86 rfl) ?_
      refine ww_iload_n C 1 rfl rfl (dq dk_Reader_giveForm 87 rfl) ?_
      refine ww_cVi (st := [.ref (ad k (ch v0 0))]) C (c_Reader_groupOp v0 ho_v0 v1) cw_Reader_groupOp ho_v0 (lt_ rfl) rfl g_3_43 hRm ⟨⟨rfl, rfl⟩, le_ rfl, le_ rfl⟩ rfl rfl rfl (le_ rfl) (dq dk_Reader_giveForm 88 rfl) h (fun x2 σ1 h => ?_)
      refine ww_puti C ko_Instruction 0 (kc_Reader_0 _ ho_v0) (lt_ rfl) g_1_73 rfl rfl rfl rfl (dq dk_Reader_giveForm 89 rfl) h (fun σ3 h => ?_)
      refine ww_aload_n C 0 rfl rfl (dq dk_Reader_giveForm 90 rfl) ?_
      refine ww_aload_n C 0 rfl rfl (dq dk_Reader_giveForm 91 rfl) ?_
      refine ww_geti C ko_Reader 3 ho_v0 (lt_ rfl) g_1_128 rfl rfl (dq dk_Reader_giveForm 92 rfl) ?_
      refine ww_if_eq C 222 (dq dk_Reader_giveForm 93 rfl) (by decide) h (fun h => ?_) (fun h => ?_)
      · refine ww_iconst C (dq dk_Reader_giveForm 101 rfl) ic_0 ?_
        refine ww_putZ C ko_Reader 3 ho_v0 (lt_ rfl) g_1_128 rfl rfl rfl rfl (Or.inl rfl) (dq dk_Reader_giveForm 102 rfl) h (fun σ4 h => ?_)
        refine ww_aload_n C 0 rfl rfl (dq dk_Reader_giveForm 103 rfl) ?_
        refine ww_geti C ko_Reader 5 ho_v0 (lt_ rfl) g_1_130 rfl rfl (dq dk_Reader_giveForm 104 rfl) ?_
        refine ww_if_ne C 238 (dq dk_Reader_giveForm 105 rfl) (by decide) h (fun h => ?_) (fun h => ?_)
        · refine ww_bipush C (dq dk_Reader_giveForm 108 rfl) bp_6 ?_
          refine ww_istore_n C [(2, .int 6), (0, .ref (ad k v0)), (1, .int v1)] rfl hnL (lt_ rfl) rfl (dq dk_Reader_giveForm 109 rfl) ?_
          refine ww_aload_n C 1 rfl rfl (dq dk_Reader_giveForm 110 rfl) ?_
          refine ww_geti C ko_Reader 5 ho_v0 (lt_ rfl) g_1_130 rfl rfl (dq dk_Reader_giveForm 111 rfl) ?_
          refine ww_if_ne C 252 (dq dk_Reader_giveForm 112 rfl) (by decide) h (fun h => ?_) (fun h => ?_)
          · refine ww_iconst C (dq dk_Reader_giveForm 115 rfl) ic_5 ?_
            exact ww_lv [1, 0] rfl (t_Reader_giveForm_B253 C hR hRm hnL v0 6 5 ho_v0 σ4 h)
          · refine ww_iconst C (dq dk_Reader_giveForm 113 rfl) ic_1 ?_
            refine ww_goto C 253 (dq dk_Reader_giveForm 114 rfl) (by decide) ?_
            exact ww_lv [1, 0] rfl (t_Reader_giveForm_B253 C hR hRm hnL v0 6 1 ho_v0 σ4 h)
        · refine ww_bipush C (dq dk_Reader_giveForm 106 rfl) bp_7 ?_
          refine ww_goto C 240 (dq dk_Reader_giveForm 107 rfl) (by decide) ?_
          refine ww_istore_n C [(2, .int 7), (0, .ref (ad k v0)), (1, .int v1)] rfl hnL (lt_ rfl) rfl (dq dk_Reader_giveForm 109 rfl) ?_
          refine ww_aload_n C 1 rfl rfl (dq dk_Reader_giveForm 110 rfl) ?_
          refine ww_geti C ko_Reader 5 ho_v0 (lt_ rfl) g_1_130 rfl rfl (dq dk_Reader_giveForm 111 rfl) ?_
          refine ww_if_ne C 252 (dq dk_Reader_giveForm 112 rfl) (by decide) h (fun h => ?_) (fun h => ?_)
          · refine ww_iconst C (dq dk_Reader_giveForm 115 rfl) ic_5 ?_
            exact ww_lv [1, 0] rfl (t_Reader_giveForm_B253 C hR hRm hnL v0 7 5 ho_v0 σ4 h)
          · refine ww_iconst C (dq dk_Reader_giveForm 113 rfl) ic_1 ?_
            refine ww_goto C 253 (dq dk_Reader_giveForm 114 rfl) (by decide) ?_
            exact ww_lv [1, 0] rfl (t_Reader_giveForm_B253 C hR hRm hnL v0 7 1 ho_v0 σ4 h)
      · refine ww_aload_n C 0 rfl rfl (dq dk_Reader_giveForm 94 rfl) ?_
        refine ww_getr C ko_Reader 0 ho_v0 (lt_ rfl) g_1_122 rfl rfl (dq dk_Reader_giveForm 95 rfl) ?_
        refine ww_geti C ko_Instruction 0 (kc_Reader_0 _ ho_v0) (lt_ rfl) g_1_73 rfl rfl (dq dk_Reader_giveForm 96 rfl) ?_
        refine ww_iconst C (dq dk_Reader_giveForm 97 rfl) ic_m1 ?_
        refine ww_icmp_eq C 222 (dq dk_Reader_giveForm 98 rfl) (by decide) h (fun h => ?_) (fun h => ?_)
        · refine ww_iconst C (dq dk_Reader_giveForm 101 rfl) ic_0 ?_
          refine ww_putZ C ko_Reader 3 ho_v0 (lt_ rfl) g_1_128 rfl rfl rfl rfl (Or.inl rfl) (dq dk_Reader_giveForm 102 rfl) h (fun σ5 h => ?_)
          refine ww_aload_n C 0 rfl rfl (dq dk_Reader_giveForm 103 rfl) ?_
          refine ww_geti C ko_Reader 5 ho_v0 (lt_ rfl) g_1_130 rfl rfl (dq dk_Reader_giveForm 104 rfl) ?_
          refine ww_if_ne C 238 (dq dk_Reader_giveForm 105 rfl) (by decide) h (fun h => ?_) (fun h => ?_)
          · refine ww_bipush C (dq dk_Reader_giveForm 108 rfl) bp_6 ?_
            refine ww_istore_n C [(2, .int 6), (0, .ref (ad k v0)), (1, .int v1)] rfl hnL (lt_ rfl) rfl (dq dk_Reader_giveForm 109 rfl) ?_
            refine ww_aload_n C 1 rfl rfl (dq dk_Reader_giveForm 110 rfl) ?_
            refine ww_geti C ko_Reader 5 ho_v0 (lt_ rfl) g_1_130 rfl rfl (dq dk_Reader_giveForm 111 rfl) ?_
            refine ww_if_ne C 252 (dq dk_Reader_giveForm 112 rfl) (by decide) h (fun h => ?_) (fun h => ?_)
            · refine ww_iconst C (dq dk_Reader_giveForm 115 rfl) ic_5 ?_
              exact ww_lv [1, 0] rfl (t_Reader_giveForm_B253 C hR hRm hnL v0 6 5 ho_v0 σ5 h)
            · refine ww_iconst C (dq dk_Reader_giveForm 113 rfl) ic_1 ?_
              refine ww_goto C 253 (dq dk_Reader_giveForm 114 rfl) (by decide) ?_
              exact ww_lv [1, 0] rfl (t_Reader_giveForm_B253 C hR hRm hnL v0 6 1 ho_v0 σ5 h)
          · refine ww_bipush C (dq dk_Reader_giveForm 106 rfl) bp_7 ?_
            refine ww_goto C 240 (dq dk_Reader_giveForm 107 rfl) (by decide) ?_
            refine ww_istore_n C [(2, .int 7), (0, .ref (ad k v0)), (1, .int v1)] rfl hnL (lt_ rfl) rfl (dq dk_Reader_giveForm 109 rfl) ?_
            refine ww_aload_n C 1 rfl rfl (dq dk_Reader_giveForm 110 rfl) ?_
            refine ww_geti C ko_Reader 5 ho_v0 (lt_ rfl) g_1_130 rfl rfl (dq dk_Reader_giveForm 111 rfl) ?_
            refine ww_if_ne C 252 (dq dk_Reader_giveForm 112 rfl) (by decide) h (fun h => ?_) (fun h => ?_)
            · refine ww_iconst C (dq dk_Reader_giveForm 115 rfl) ic_5 ?_
              exact ww_lv [1, 0] rfl (t_Reader_giveForm_B253 C hR hRm hnL v0 7 5 ho_v0 σ5 h)
            · refine ww_iconst C (dq dk_Reader_giveForm 113 rfl) ic_1 ?_
              refine ww_goto C 253 (dq dk_Reader_giveForm 114 rfl) (by decide) ?_
              exact ww_lv [1, 0] rfl (t_Reader_giveForm_B253 C hR hRm hnL v0 7 1 ho_v0 σ5 h)
        · refine ww_iconst C (dq dk_Reader_giveForm 99 rfl) ic_1 ?_
          refine ww_goto C 223 (dq dk_Reader_giveForm 100 rfl) (by decide) ?_
          refine ww_putZ C ko_Reader 3 ho_v0 (lt_ rfl) g_1_128 rfl rfl rfl rfl (Or.inr rfl) (dq dk_Reader_giveForm 102 rfl) h (fun σ6 h => ?_)
          refine ww_aload_n C 0 rfl rfl (dq dk_Reader_giveForm 103 rfl) ?_
          refine ww_geti C ko_Reader 5 ho_v0 (lt_ rfl) g_1_130 rfl rfl (dq dk_Reader_giveForm 104 rfl) ?_
          refine ww_if_ne C 238 (dq dk_Reader_giveForm 105 rfl) (by decide) h (fun h => ?_) (fun h => ?_)
          · refine ww_bipush C (dq dk_Reader_giveForm 108 rfl) bp_6 ?_
            refine ww_istore_n C [(2, .int 6), (0, .ref (ad k v0)), (1, .int v1)] rfl hnL (lt_ rfl) rfl (dq dk_Reader_giveForm 109 rfl) ?_
            refine ww_aload_n C 1 rfl rfl (dq dk_Reader_giveForm 110 rfl) ?_
            refine ww_geti C ko_Reader 5 ho_v0 (lt_ rfl) g_1_130 rfl rfl (dq dk_Reader_giveForm 111 rfl) ?_
            refine ww_if_ne C 252 (dq dk_Reader_giveForm 112 rfl) (by decide) h (fun h => ?_) (fun h => ?_)
            · refine ww_iconst C (dq dk_Reader_giveForm 115 rfl) ic_5 ?_
              exact ww_lv [1, 0] rfl (t_Reader_giveForm_B253 C hR hRm hnL v0 6 5 ho_v0 σ6 h)
            · refine ww_iconst C (dq dk_Reader_giveForm 113 rfl) ic_1 ?_
              refine ww_goto C 253 (dq dk_Reader_giveForm 114 rfl) (by decide) ?_
              exact ww_lv [1, 0] rfl (t_Reader_giveForm_B253 C hR hRm hnL v0 6 1 ho_v0 σ6 h)
          · refine ww_bipush C (dq dk_Reader_giveForm 106 rfl) bp_7 ?_
            refine ww_goto C 240 (dq dk_Reader_giveForm 107 rfl) (by decide) ?_
            refine ww_istore_n C [(2, .int 7), (0, .ref (ad k v0)), (1, .int v1)] rfl hnL (lt_ rfl) rfl (dq dk_Reader_giveForm 109 rfl) ?_
            refine ww_aload_n C 1 rfl rfl (dq dk_Reader_giveForm 110 rfl) ?_
            refine ww_geti C ko_Reader 5 ho_v0 (lt_ rfl) g_1_130 rfl rfl (dq dk_Reader_giveForm 111 rfl) ?_
            refine ww_if_ne C 252 (dq dk_Reader_giveForm 112 rfl) (by decide) h (fun h => ?_) (fun h => ?_)
            · refine ww_iconst C (dq dk_Reader_giveForm 115 rfl) ic_5 ?_
              exact ww_lv [1, 0] rfl (t_Reader_giveForm_B253 C hR hRm hnL v0 7 5 ho_v0 σ6 h)
            · refine ww_iconst C (dq dk_Reader_giveForm 113 rfl) ic_1 ?_
              refine ww_goto C 253 (dq dk_Reader_giveForm 114 rfl) (by decide) ?_
              exact ww_lv [1, 0] rfl (t_Reader_giveForm_B253 C hR hRm hnL v0 7 1 ho_v0 σ6 h)
    · refine ww_aload_n C 0 rfl rfl (dq dk_Reader_giveForm 41 rfl) ?_
      refine ww_aload_n C 0 rfl rfl (dq dk_Reader_giveForm 42 rfl) ?_
      refine ww_geti C ko_Reader 3 ho_v0 (lt_ rfl) g_1_128 rfl rfl (dq dk_Reader_giveForm 43 rfl) ?_
      refine ww_if_eq C 122 (dq dk_Reader_giveForm 44 rfl) (by decide) h (fun h => ?_) (fun h => ?_)
      · refine ww_iconst C (dq dk_Reader_giveForm 55 rfl) ic_0 ?_
        exact ww_lv [0] rfl (t_Reader_giveForm_B123 C hR hRm hnL v0 v0 0 ho_v0 ho_v0 σ h)
      · refine ww_aload_n C 0 rfl rfl (dq dk_Reader_giveForm 45 rfl) ?_
        refine ww_geti C ko_Reader 7 ho_v0 (lt_ rfl) g_1_132 rfl rfl (dq dk_Reader_giveForm 46 rfl) ?_
        refine ww_if_eq C 118 (dq dk_Reader_giveForm 47 rfl) (by decide) h (fun h => ?_) (fun h => ?_)
        · refine ww_iconst C (dq dk_Reader_giveForm 53 rfl) ic_1 ?_
          refine ww_goto C 123 (dq dk_Reader_giveForm 54 rfl) (by decide) ?_
          exact ww_lv [0] rfl (t_Reader_giveForm_B123 C hR hRm hnL v0 v0 1 ho_v0 ho_v0 σ h)
        · refine ww_aload_n C 0 rfl rfl (dq dk_Reader_giveForm 48 rfl) ?_
          refine ww_getr C ko_Reader 0 ho_v0 (lt_ rfl) g_1_122 rfl rfl (dq dk_Reader_giveForm 49 rfl) ?_
          refine ww_geti C ko_Instruction 0 (kc_Reader_0 _ ho_v0) (lt_ rfl) g_1_73 rfl rfl (dq dk_Reader_giveForm 50 rfl) ?_
          refine ww_bipush C (dq dk_Reader_giveForm 51 rfl) bp_10 ?_
          refine ww_icmp_eq C 122 (dq dk_Reader_giveForm 52 rfl) (by decide) h (fun h => ?_) (fun h => ?_)
          · refine ww_iconst C (dq dk_Reader_giveForm 55 rfl) ic_0 ?_
            exact ww_lv [0] rfl (t_Reader_giveForm_B123 C hR hRm hnL v0 v0 0 ho_v0 ho_v0 σ h)
          · refine ww_iconst C (dq dk_Reader_giveForm 53 rfl) ic_1 ?_
            refine ww_goto C 123 (dq dk_Reader_giveForm 54 rfl) (by decide) ?_
            exact ww_lv [0] rfl (t_Reader_giveForm_B123 C hR hRm hnL v0 v0 1 ho_v0 ho_v0 σ h)
  · refine ww_aload_n C 0 rfl rfl (dq dk_Reader_giveForm 4 rfl) ?_
    refine ww_getr C ko_Reader 0 ho_v0 (lt_ rfl) g_1_122 rfl rfl (dq dk_Reader_giveForm 5 rfl) ?_
    refine ww_aload_n C 0 rfl rfl (dq dk_Reader_giveForm 6 rfl) ?_
    refine ww_geti C ko_Reader 7 ho_v0 (lt_ rfl) g_1_132 rfl rfl (dq dk_Reader_giveForm 7 rfl) ?_
    refine ww_if_eq C 23 (dq dk_Reader_giveForm 8 rfl) (by decide) h (fun h => ?_) (fun h => ?_)
    · refine ww_iconst C (dq dk_Reader_giveForm 11 rfl) ic_4 ?_
      exact ww_lv [0] rfl (t_Reader_giveForm_B24 C hR hRm hnL v0 (ch v0 0) 4 ho_v0 (kc_Reader_0 _ ho_v0) σ h)
    · refine ww_iconst C (dq dk_Reader_giveForm 9 rfl) ic_2 ?_
      refine ww_goto C 24 (dq dk_Reader_giveForm 10 rfl) (by decide) ?_
      exact ww_lv [0] rfl (t_Reader_giveForm_B24 C hR hRm hnL v0 (ch v0 0) 2 ho_v0 (kc_Reader_0 _ ho_v0) σ h)
abbrev y_Reader_expect : MethodName := ⟨"BundleHouse$Reader", "expect", "(IIII)V"⟩
def dl_Reader_expect : List (Nat × Instr × Nat) := [(0, .aload_n 0, 1), (1, .getfield 12, 3), (4, .iload_n 1, 1), (5, .putfield 82, 3), (8, .aload_n 0, 1), (9, .getfield 12, 3), (12, .iload_n 2, 1), (13, .putfield 85, 3), (16, .aload_n 0, 1), (17, .getfield 12, 3), (20, .iload_n 3, 1), (21, .putfield 88, 3), (24, .aload_n 0, 1), (25, .iload 4, 2), (27, .putfield 33, 3), (30, .return_, 1)]
set_option maxRecDepth 100000 in
theorem dk_Reader_expect : ∀ q ∈ dl_Reader_expect, decode prog_9_method_5_code q.1 = .ok q.2 := by decide +kernel
abbrev rm_Reader_expect : Room := { frames := 0, cells := 0, slots := 0, locals := 0 }
theorem cw_Reader_expect : CWV y_Reader_expect prog_9_method_5_code 5 none 4 := ⟨⟨g_3_22, g_1_4, by decide, by decide, by decide +kernel⟩, g_3_21, gs_1_5⟩
set_option maxHeartbeats 4000000 in
set_option maxRecDepth 100000 in
theorem c_Reader_expect (v0 : Nat) (ho_v0 : kd v0 = 3) (v1 : Int32) (v2 : Int32) (v3 : Int32) (v4 : Int32) : MV y_Reader_expect rm_Reader_expect prog_9_method_5_code 5 (fun a => [.ref (a v0), .int v1, .int v2, .int v3, .int v4]) (Reader_expect v0 v1 v2 v3 v4) := by
  refine mv_of (by decide) (fun _ => le_ rfl) ?_
  intro k res σ C hR hRm hnL h
  unfold Reader_expect at h
  show WW k 0 [(0, .ref (ad k v0)), (1, .int v1), (2, .int v2), (3, .int v3), (4, .int v4)] [] σ
  refine ww_aload_n C 0 rfl rfl (dq dk_Reader_expect 0 rfl) ?_
  refine ww_getr C ko_Reader 0 ho_v0 (lt_ rfl) g_1_122 rfl rfl (dq dk_Reader_expect 1 rfl) ?_
  refine ww_iload_n C 1 rfl rfl (dq dk_Reader_expect 2 rfl) ?_
  refine ww_puti C ko_Instruction 0 (kc_Reader_0 _ ho_v0) (lt_ rfl) g_1_73 rfl rfl rfl rfl (dq dk_Reader_expect 3 rfl) h (fun σ1 h => ?_)
  refine ww_aload_n C 0 rfl rfl (dq dk_Reader_expect 4 rfl) ?_
  refine ww_getr C ko_Reader 0 ho_v0 (lt_ rfl) g_1_122 rfl rfl (dq dk_Reader_expect 5 rfl) ?_
  refine ww_iload_n C 2 rfl rfl (dq dk_Reader_expect 6 rfl) ?_
  refine ww_puti C ko_Instruction 1 (kc_Reader_0 _ ho_v0) (lt_ rfl) g_1_78 rfl rfl rfl rfl (dq dk_Reader_expect 7 rfl) h (fun σ2 h => ?_)
  refine ww_aload_n C 0 rfl rfl (dq dk_Reader_expect 8 rfl) ?_
  refine ww_getr C ko_Reader 0 ho_v0 (lt_ rfl) g_1_122 rfl rfl (dq dk_Reader_expect 9 rfl) ?_
  refine ww_iload_n C 3 rfl rfl (dq dk_Reader_expect 10 rfl) ?_
  refine ww_puti C ko_Instruction 2 (kc_Reader_0 _ ho_v0) (lt_ rfl) g_1_85 rfl rfl rfl rfl (dq dk_Reader_expect 11 rfl) h (fun σ3 h => ?_)
  refine ww_aload_n C 0 rfl rfl (dq dk_Reader_expect 12 rfl) ?_
  refine ww_iload C 4 rfl (dq dk_Reader_expect 13 rfl) ?_
  refine ww_puti C ko_Reader 5 ho_v0 (lt_ rfl) g_1_130 rfl rfl rfl rfl (dq dk_Reader_expect 14 rfl) h (fun σ4 h => ?_)
  exact ww_vret C hR (dq dk_Reader_expect 15 rfl) h
abbrev y_House_isCondition : MethodName := ⟨"BundleHouse", "isCondition", "(I)Z"⟩
def dl_House_isCondition : List (Nat × Instr × Nat) := [(0, .iload_n 0, 1), (1, .ifCond .lt 25, 3), (4, .iload_n 0, 1), (5, .bipush 15, 2), (7, .if_icmp .gt 19, 3), (10, .iload_n 0, 1), (11, .bipush 10, 2), (13, .if_icmp .eq 13, 3), (16, .iload_n 0, 1), (17, .bipush 11, 2), (19, .if_icmp .eq 7, 3), (22, .iconst 1, 1), (23, .goto 4, 3), (26, .iconst 0, 1), (27, .ireturn, 1)]
set_option maxRecDepth 100000 in
theorem dk_House_isCondition : ∀ q ∈ dl_House_isCondition, decode prog_1_method_25_code q.1 = .ok q.2 := by decide +kernel
abbrev rm_House_isCondition : Room := { frames := 0, cells := 0, slots := 0, locals := 0 }
theorem cw_House_isCondition : CWS y_House_isCondition prog_1_method_25_code 1 (some .boolean) 1 := ⟨⟨g_3_18, g_1_1, by decide, by decide, by decide +kernel⟩, g_3_17⟩
set_option maxHeartbeats 4000000 in
set_option maxRecDepth 100000 in
theorem c_House_isCondition (v0 : Int32) : MI y_House_isCondition rm_House_isCondition prog_1_method_25_code 1 .boolean (fun a => [.int v0]) (House_isCondition v0) := by
  refine mi_of (by decide) (fun _ => le_ rfl) ?_
  intro k res σ C hR hRm hnL h
  unfold House_isCondition at h
  show WW k 0 [(0, .int v0)] [] σ
  refine ww_iload_n C 0 rfl rfl (dq dk_House_isCondition 0 rfl) ?_
  refine ww_if_lt C 26 (dq dk_House_isCondition 1 rfl) (by decide) h (fun h => ?_) (fun h => ?_)
  · refine ww_iconst C (dq dk_House_isCondition 13 rfl) ic_0 ?_
    exact ww_zretL C hR (dq dk_House_isCondition 14 rfl) (Or.inl rfl) h
  · refine ww_iload_n C 0 rfl rfl (dq dk_House_isCondition 2 rfl) ?_
    refine ww_bipush C (dq dk_House_isCondition 3 rfl) bp_15 ?_
    refine ww_icmp_gt C 26 (dq dk_House_isCondition 4 rfl) (by decide) h (fun h => ?_) (fun h => ?_)
    · refine ww_iconst C (dq dk_House_isCondition 13 rfl) ic_0 ?_
      exact ww_zretL C hR (dq dk_House_isCondition 14 rfl) (Or.inl rfl) h
    · refine ww_iload_n C 0 rfl rfl (dq dk_House_isCondition 5 rfl) ?_
      refine ww_bipush C (dq dk_House_isCondition 6 rfl) bp_10 ?_
      refine ww_icmp_eq C 26 (dq dk_House_isCondition 7 rfl) (by decide) h (fun h => ?_) (fun h => ?_)
      · refine ww_iconst C (dq dk_House_isCondition 13 rfl) ic_0 ?_
        exact ww_zretL C hR (dq dk_House_isCondition 14 rfl) (Or.inl rfl) h
      · refine ww_iload_n C 0 rfl rfl (dq dk_House_isCondition 8 rfl) ?_
        refine ww_bipush C (dq dk_House_isCondition 9 rfl) bp_11 ?_
        refine ww_icmp_eq C 26 (dq dk_House_isCondition 10 rfl) (by decide) h (fun h => ?_) (fun h => ?_)
        · refine ww_iconst C (dq dk_House_isCondition 13 rfl) ic_0 ?_
          exact ww_zretL C hR (dq dk_House_isCondition 14 rfl) (Or.inl rfl) h
        · refine ww_iconst C (dq dk_House_isCondition 11 rfl) ic_1 ?_
          refine ww_goto C 27 (dq dk_House_isCondition 12 rfl) (by decide) ?_
          exact ww_zretL C hR (dq dk_House_isCondition 14 rfl) (Or.inr rfl) h
abbrev y_Reader_expectBranch : MethodName := ⟨"BundleHouse$Reader", "expectBranch", "(II)V"⟩
def dl_Reader_expectBranch : List (Nat × Instr × Nat) := [(0, .aload_n 0, 1), (1, .aload_n 0, 1), (2, .getfield 26, 3), (5, .ifCond .eq 14, 3), (8, .iload_n 1, 1), (9, .invokestatic 91, 3), (12, .ifCond .eq 7, 3), (15, .iconst 1, 1), (16, .goto 4, 3), (19, .iconst 0, 1), (20, .putfield 26, 3), (23, .aload_n 0, 1), (24, .bipush 25, 2), (26, .bipush 8, 2), (28, .iload_n 1, 1), (29, .iload_n 2, 1), (30, .invokevirtual 95, 3), (33, .return_, 1)]
set_option maxRecDepth 100000 in
theorem dk_Reader_expectBranch : ∀ q ∈ dl_Reader_expectBranch, decode prog_9_method_7_code q.1 = .ok q.2 := by decide +kernel
abbrev rm_Reader_expectBranch : Room := { frames := 1, cells := 0, slots := 0, locals := 24 }
theorem cw_Reader_expectBranch : CWV y_Reader_expectBranch prog_9_method_7_code 3 none 2 := ⟨⟨g_3_15, g_1_4, by decide, by decide, by decide +kernel⟩, g_3_14, gs_1_4⟩
set_option maxHeartbeats 4000000 in
set_option maxRecDepth 100000 in
theorem t_Reader_expectBranch_B20 {k : Cfg} {res : St} (C : Cx k prog_9_method_7_code "BundleHouse$Reader") (hR : RV k res) (hRm : k.2.2.2.1 = rm_Reader_expectBranch) (hnL : k.2.2.2.2.2.2.2.2.2.2.2.1 = 3) (v0 : Nat) (v1 : Int32) (v2 : Int32) (t0 : Nat) (t1 : Int32) (ho_v0 : kd v0 = 3) (ho_t0 : kd t0 = 3) (σ : St) (h : Reader_expectBranch_B20 v0 v1 v2 t0 t1 σ = some res) : WW k 20 [(0, .ref (ad k v0)), (1, .int v1), (2, .int v2)] [.int t1, .ref (ad k t0)] σ := by
  unfold Reader_expectBranch_B20 at h
  refine ww_putz C ko_Reader 3 ho_t0 (lt_ rfl) g_1_128 rfl rfl rfl rfl (dq dk_Reader_expectBranch 10 rfl) h (fun σ1 h => ?_)
  refine ww_aload_n C 0 rfl rfl (dq dk_Reader_expectBranch 11 rfl) ?_
  refine ww_bipush C (dq dk_Reader_expectBranch 12 rfl) bp_25 ?_
  refine ww_bipush C (dq dk_Reader_expectBranch 13 rfl) bp_8 ?_
  refine ww_iload_n C 1 rfl rfl (dq dk_Reader_expectBranch 14 rfl) ?_
  refine ww_iload_n C 2 rfl rfl (dq dk_Reader_expectBranch 15 rfl) ?_
  refine ww_cVv (st := []) C (c_Reader_expect v0 ho_v0 25 8 v1 v2) cw_Reader_expect ho_v0 (lt_ rfl) rfl g_3_19 hRm ⟨⟨rfl, rfl⟩, le_ rfl, le_ rfl⟩ rfl rfl rfl (le_ rfl) (dq dk_Reader_expectBranch 16 rfl) h (fun σ2 h => ?_)
  exact ww_vret C hR (dq dk_Reader_expectBranch 17 rfl) h
set_option maxHeartbeats 4000000 in
set_option maxRecDepth 100000 in
theorem c_Reader_expectBranch (v0 : Nat) (ho_v0 : kd v0 = 3) (v1 : Int32) (v2 : Int32) : MV y_Reader_expectBranch rm_Reader_expectBranch prog_9_method_7_code 3 (fun a => [.ref (a v0), .int v1, .int v2]) (Reader_expectBranch v0 v1 v2) := by
  refine mv_of (by decide) (fun _ => le_ rfl) ?_
  intro k res σ C hR hRm hnL h
  unfold Reader_expectBranch at h
  show WW k 0 [(0, .ref (ad k v0)), (1, .int v1), (2, .int v2)] [] σ
  refine ww_aload_n C 0 rfl rfl (dq dk_Reader_expectBranch 0 rfl) ?_
  refine ww_aload_n C 0 rfl rfl (dq dk_Reader_expectBranch 1 rfl) ?_
  refine ww_geti C ko_Reader 3 ho_v0 (lt_ rfl) g_1_128 rfl rfl (dq dk_Reader_expectBranch 2 rfl) ?_
  refine ww_if_eq C 19 (dq dk_Reader_expectBranch 3 rfl) (by decide) h (fun h => ?_) (fun h => ?_)
  · refine ww_iconst C (dq dk_Reader_expectBranch 9 rfl) ic_0 ?_
    exact ww_lv [0, 1, 2] rfl (t_Reader_expectBranch_B20 C hR hRm hnL v0 v1 v2 v0 0 ho_v0 ho_v0 σ h)
  · refine ww_iload_n C 1 rfl rfl (dq dk_Reader_expectBranch 4 rfl) ?_
    refine ww_cNi (st := [.ref (ad k v0)]) C (c_House_isCondition v1) cw_House_isCondition nw_8 hRm ⟨⟨rfl, rfl⟩, le_ rfl, le_ rfl⟩ rfl rfl rfl (le_ rfl) (dq dk_Reader_expectBranch 5 rfl) h (fun x2 σ1 h => ?_)
    refine ww_if_eq C 19 (dq dk_Reader_expectBranch 6 rfl) (by decide) h (fun h => ?_) (fun h => ?_)
    · refine ww_iconst C (dq dk_Reader_expectBranch 9 rfl) ic_0 ?_
      exact ww_lv [0, 1, 2] rfl (t_Reader_expectBranch_B20 C hR hRm hnL v0 v1 v2 v0 0 ho_v0 ho_v0 σ1 h)
    · refine ww_iconst C (dq dk_Reader_expectBranch 7 rfl) ic_1 ?_
      refine ww_goto C 20 (dq dk_Reader_expectBranch 8 rfl) (by decide) ?_
      exact ww_lv [0, 1, 2] rfl (t_Reader_expectBranch_B20 C hR hRm hnL v0 v1 v2 v0 1 ho_v0 ho_v0 σ1 h)
abbrev y_Reader_expectOperand : MethodName := ⟨"BundleHouse$Reader", "expectOperand", "(III)V"⟩
def dl_Reader_expectOperand : List (Nat × Instr × Nat) := [(0, .aload_n 0, 1), (1, .iload_n 1, 1), (2, .putfield 30, 3), (5, .aload_n 0, 1), (6, .getfield 12, 3), (9, .iload_n 2, 1), (10, .putfield 82, 3), (13, .aload_n 0, 1), (14, .iload_n 3, 1), (15, .putfield 33, 3), (18, .return_, 1)]
set_option maxRecDepth 100000 in
theorem dk_Reader_expectOperand : ∀ q ∈ dl_Reader_expectOperand, decode prog_9_method_6_code q.1 = .ok q.2 := by decide +kernel
abbrev rm_Reader_expectOperand : Room := { frames := 0, cells := 0, slots := 0, locals := 0 }
theorem cw_Reader_expectOperand : CWV y_Reader_expectOperand prog_9_method_6_code 4 none 3 := ⟨⟨g_3_11, g_1_4, by decide, by decide, by decide +kernel⟩, g_3_10, gs_1_3⟩
set_option maxHeartbeats 4000000 in
set_option maxRecDepth 100000 in
theorem c_Reader_expectOperand (v0 : Nat) (ho_v0 : kd v0 = 3) (v1 : Int32) (v2 : Int32) (v3 : Int32) : MV y_Reader_expectOperand rm_Reader_expectOperand prog_9_method_6_code 4 (fun a => [.ref (a v0), .int v1, .int v2, .int v3]) (Reader_expectOperand v0 v1 v2 v3) := by
  refine mv_of (by decide) (fun _ => le_ rfl) ?_
  intro k res σ C hR hRm hnL h
  unfold Reader_expectOperand at h
  show WW k 0 [(0, .ref (ad k v0)), (1, .int v1), (2, .int v2), (3, .int v3)] [] σ
  refine ww_aload_n C 0 rfl rfl (dq dk_Reader_expectOperand 0 rfl) ?_
  refine ww_iload_n C 1 rfl rfl (dq dk_Reader_expectOperand 1 rfl) ?_
  refine ww_puti C ko_Reader 4 ho_v0 (lt_ rfl) g_1_129 rfl rfl rfl rfl (dq dk_Reader_expectOperand 2 rfl) h (fun σ1 h => ?_)
  refine ww_aload_n C 0 rfl rfl (dq dk_Reader_expectOperand 3 rfl) ?_
  refine ww_getr C ko_Reader 0 ho_v0 (lt_ rfl) g_1_122 rfl rfl (dq dk_Reader_expectOperand 4 rfl) ?_
  refine ww_iload_n C 2 rfl rfl (dq dk_Reader_expectOperand 5 rfl) ?_
  refine ww_puti C ko_Instruction 0 (kc_Reader_0 _ ho_v0) (lt_ rfl) g_1_73 rfl rfl rfl rfl (dq dk_Reader_expectOperand 6 rfl) h (fun σ2 h => ?_)
  refine ww_aload_n C 0 rfl rfl (dq dk_Reader_expectOperand 7 rfl) ?_
  refine ww_iload_n C 3 rfl rfl (dq dk_Reader_expectOperand 8 rfl) ?_
  refine ww_puti C ko_Reader 5 ho_v0 (lt_ rfl) g_1_130 rfl rfl rfl rfl (dq dk_Reader_expectOperand 9 rfl) h (fun σ3 h => ?_)
  exact ww_vret C hR (dq dk_Reader_expectOperand 10 rfl) h
abbrev y_Reader_shapeArithmetic : MethodName := ⟨"BundleHouse$Reader", "shapeArithmetic", "(I)V"⟩
def dl_Reader_shapeArithmetic : List (Nat × Instr × Nat) := [(0, .iload_n 1, 1), (1, .bipush 7, 2), (3, .iand, 1), (4, .iconst 1, 1), (5, .if_icmp .ne 15, 3), (8, .aload_n 0, 1), (9, .iconst 1, 1), (10, .iload_n 1, 1), (11, .iconst 3, 1), (12, .ishr, 1), (13, .iconst 0, 1), (14, .invokevirtual 109, 3), (17, .goto 28, 3), (20, .iload_n 1, 1), (21, .bipush 7, 2), (23, .iand, 1), (24, .iconst 3, 1), (25, .if_icmp .ne 15, 3), (28, .aload_n 0, 1), (29, .iconst 2, 1), (30, .iload_n 1, 1), (31, .iconst 3, 1), (32, .ishr, 1), (33, .iconst 0, 1), (34, .invokevirtual 109, 3), (37, .goto 8, 3), (40, .aload_n 0, 1), (41, .iconst 0, 1), (42, .putfield 26, 3), (45, .return_, 1)]
set_option maxRecDepth 100000 in
theorem dk_Reader_shapeArithmetic : ∀ q ∈ dl_Reader_shapeArithmetic, decode prog_9_method_9_code q.1 = .ok q.2 := by decide +kernel
abbrev rm_Reader_shapeArithmetic : Room := { frames := 1, cells := 0, slots := 0, locals := 23 }
theorem cw_Reader_shapeArithmetic : CWV y_Reader_shapeArithmetic prog_9_method_9_code 2 none 1 := ⟨⟨g_3_30, g_1_4, by decide, by decide, by decide +kernel⟩, g_3_29, gs_1_7⟩
set_option maxHeartbeats 4000000 in
set_option maxRecDepth 100000 in
theorem c_Reader_shapeArithmetic (v0 : Nat) (ho_v0 : kd v0 = 3) (v1 : Int32) : MV y_Reader_shapeArithmetic rm_Reader_shapeArithmetic prog_9_method_9_code 2 (fun a => [.ref (a v0), .int v1]) (Reader_shapeArithmetic v0 v1) := by
  refine mv_of (by decide) (fun _ => le_ rfl) ?_
  intro k res σ C hR hRm hnL h
  unfold Reader_shapeArithmetic at h
  show WW k 0 [(0, .ref (ad k v0)), (1, .int v1)] [] σ
  refine ww_iload_n C 1 rfl rfl (dq dk_Reader_shapeArithmetic 0 rfl) ?_
  refine ww_bipush C (dq dk_Reader_shapeArithmetic 1 rfl) bp_7 ?_
  refine ww_iand C (dq dk_Reader_shapeArithmetic 2 rfl) ?_
  refine ww_iconst C (dq dk_Reader_shapeArithmetic 3 rfl) ic_1 ?_
  refine ww_icmp_ne C 20 (dq dk_Reader_shapeArithmetic 4 rfl) (by decide) h (fun h => ?_) (fun h => ?_)
  · refine ww_iload_n C 1 rfl rfl (dq dk_Reader_shapeArithmetic 13 rfl) ?_
    refine ww_bipush C (dq dk_Reader_shapeArithmetic 14 rfl) bp_7 ?_
    refine ww_iand C (dq dk_Reader_shapeArithmetic 15 rfl) ?_
    refine ww_iconst C (dq dk_Reader_shapeArithmetic 16 rfl) ic_3 ?_
    refine ww_icmp_ne C 40 (dq dk_Reader_shapeArithmetic 17 rfl) (by decide) h (fun h => ?_) (fun h => ?_)
    · refine ww_aload_n C 0 rfl rfl (dq dk_Reader_shapeArithmetic 26 rfl) ?_
      refine ww_iconst C (dq dk_Reader_shapeArithmetic 27 rfl) ic_0 ?_
      refine ww_putZ C ko_Reader 3 ho_v0 (lt_ rfl) g_1_128 rfl rfl rfl rfl (Or.inl rfl) (dq dk_Reader_shapeArithmetic 28 rfl) h (fun σ1 h => ?_)
      exact ww_vret C hR (dq dk_Reader_shapeArithmetic 29 rfl) h
    · refine ww_aload_n C 0 rfl rfl (dq dk_Reader_shapeArithmetic 18 rfl) ?_
      refine ww_iconst C (dq dk_Reader_shapeArithmetic 19 rfl) ic_2 ?_
      refine ww_iload_n C 1 rfl rfl (dq dk_Reader_shapeArithmetic 20 rfl) ?_
      refine ww_iconst C (dq dk_Reader_shapeArithmetic 21 rfl) ic_3 ?_
      refine ww_ishr C (dq dk_Reader_shapeArithmetic 22 rfl) ?_
      refine ww_iconst C (dq dk_Reader_shapeArithmetic 23 rfl) ic_0 ?_
      refine ww_cVv (st := []) C (c_Reader_expectOperand v0 ho_v0 2 (shr v1 3) 0) cw_Reader_expectOperand ho_v0 (lt_ rfl) rfl g_3_8 hRm ⟨⟨rfl, rfl⟩, le_ rfl, le_ rfl⟩ rfl rfl rfl (le_ rfl) (dq dk_Reader_shapeArithmetic 24 rfl) h (fun σ2 h => ?_)
      refine ww_goto C 45 (dq dk_Reader_shapeArithmetic 25 rfl) (by decide) ?_
      exact ww_vret C hR (dq dk_Reader_shapeArithmetic 29 rfl) h
  · refine ww_aload_n C 0 rfl rfl (dq dk_Reader_shapeArithmetic 5 rfl) ?_
    refine ww_iconst C (dq dk_Reader_shapeArithmetic 6 rfl) ic_1 ?_
    refine ww_iload_n C 1 rfl rfl (dq dk_Reader_shapeArithmetic 7 rfl) ?_
    refine ww_iconst C (dq dk_Reader_shapeArithmetic 8 rfl) ic_3 ?_
    refine ww_ishr C (dq dk_Reader_shapeArithmetic 9 rfl) ?_
    refine ww_iconst C (dq dk_Reader_shapeArithmetic 10 rfl) ic_0 ?_
    refine ww_cVv (st := []) C (c_Reader_expectOperand v0 ho_v0 1 (shr v1 3) 0) cw_Reader_expectOperand ho_v0 (lt_ rfl) rfl g_3_8 hRm ⟨⟨rfl, rfl⟩, le_ rfl, le_ rfl⟩ rfl rfl rfl (le_ rfl) (dq dk_Reader_shapeArithmetic 11 rfl) h (fun σ3 h => ?_)
    refine ww_goto C 45 (dq dk_Reader_shapeArithmetic 12 rfl) (by decide) ?_
    exact ww_vret C hR (dq dk_Reader_shapeArithmetic 29 rfl) h
abbrev y_Reader_shapeOther : MethodName := ⟨"BundleHouse$Reader", "shapeOther", "(I)V"⟩
def dl_Reader_shapeOther : List (Nat × Instr × Nat) := [(0, .iload_n 1, 1), (1, .lookupswitch 364 #[(104, 155), (106, 168), (129, 181), (131, 191), (133, 201), (137, 212), (139, 223), (141, 234), (144, 245), (193, 257), (195, 268), (199, 280), (232, 291), (233, 304), (235, 317), (244, 330), (247, 342), (255, 353)], 155), (156, .aload_n 0, 1), (157, .bipush 19, 2), (159, .bipush 8, 2), (161, .iconst 0, 1), (162, .iconst 4, 1), (163, .invokevirtual 95, 3), (166, .goto 204, 3), (169, .aload_n 0, 1), (170, .bipush 19, 2), (172, .bipush 8, 2), (174, .iconst 0, 1), (175, .iconst 1, 1), (176, .invokevirtual 95, 3), (179, .goto 191, 3), (182, .aload_n 0, 1), (183, .iconst 3, 1), (184, .iconst 0, 1), (185, .iconst 4, 1), (186, .invokevirtual 109, 3), (189, .goto 181, 3), (192, .aload_n 0, 1), (193, .iconst 3, 1), (194, .iconst 0, 1), (195, .iconst 1, 1), (196, .invokevirtual 109, 3), (199, .goto 171, 3), (202, .aload_n 0, 1), (203, .iconst 1, 1), (204, .bipush 9, 2), (206, .iconst 0, 1), (207, .invokevirtual 109, 3), (210, .goto 160, 3), (213, .aload_n 0, 1), (214, .iconst 1, 1), (215, .bipush 8, 2), (217, .iconst 0, 1), (218, .invokevirtual 109, 3), (221, .goto 149, 3), (224, .aload_n 0, 1), (225, .iconst 2, 1), (226, .bipush 8, 2), (228, .iconst 0, 1), (229, .invokevirtual 109, 3), (232, .goto 138, 3), (235, .aload_n 0, 1), (236, .iconst 2, 1), (237, .bipush 10, 2), (239, .iconst 0, 1), (240, .invokevirtual 109, 3), (243, .goto 127, 3), (246, .aload_n 0, 1), (247, .bipush 21, 2), (249, .iconst 0, 1), (250, .iconst 0, 1), (251, .iconst 0, 1), (252, .invokevirtual 95, 3), (255, .goto 115, 3), (258, .aload_n 0, 1), (259, .iconst 3, 1), (260, .bipush 14, 2), (262, .iconst 2, 1), (263, .invokevirtual 109, 3), (266, .goto 104, 3), (269, .aload_n 0, 1), (270, .bipush 23, 2), (272, .iconst 0, 1), (273, .iconst 0, 1), (274, .iconst 0, 1), (275, .invokevirtual 95, 3), (278, .goto 92, 3), (281, .aload_n 0, 1), (282, .iconst 3, 1), (283, .bipush 8, 2), (285, .iconst 4, 1), (286, .invokevirtual 109, 3), (289, .goto 81, 3), (292, .aload_n 0, 1), (293, .bipush 26, 2), (295, .bipush 8, 2), (297, .iconst 0, 1), (298, .iconst 4, 1), (299, .invokevirtual 95, 3), (302, .goto 68, 3), (305, .aload_n 0, 1), (306, .bipush 24, 2), (308, .bipush 8, 2), (310, .iconst 0, 1), (311, .iconst 4, 1), (312, .invokevirtual 95, 3), (315, .goto 55, 3), (318, .aload_n 0, 1), (319, .bipush 24, 2), (321, .bipush 8, 2), (323, .iconst 0, 1), (324, .iconst 1, 1), (325, .invokevirtual 95, 3), (328, .goto 42, 3), (331, .aload_n 0, 1), (332, .bipush 22, 2), (334, .iconst 0, 1), (335, .iconst 0, 1), (336, .iconst 0, 1), (337, .invokevirtual 95, 3), (340, .goto 30, 3), (343, .aload_n 0, 1), (344, .iconst 3, 1), (345, .bipush 12, 2), (347, .iconst 0, 1), (348, .invokevirtual 109, 3), (351, .goto 19, 3), (354, .aload_n 0, 1), (355, .iconst 3, 1), (356, .bipush 27, 2), (358, .iconst 0, 1), (359, .invokevirtual 109, 3), (362, .goto 8, 3), (365, .aload_n 0, 1), (366, .iconst 0, 1), (367, .putfield 26, 3), (370, .return_, 1)]
set_option maxRecDepth 100000 in
theorem dk_Reader_shapeOther : ∀ q ∈ dl_Reader_shapeOther, decode prog_9_method_11_code q.1 = .ok q.2 := by decide +kernel
abbrev rm_Reader_shapeOther : Room := { frames := 1, cells := 0, slots := 0, locals := 24 }
theorem cw_Reader_shapeOther : CWV y_Reader_shapeOther prog_9_method_11_code 2 none 1 := ⟨⟨g_3_34, g_1_4, by decide, by decide, by decide +kernel⟩, g_3_33, gs_1_8⟩
set_option maxHeartbeats 4000000 in
set_option maxRecDepth 100000 in
theorem c_Reader_shapeOther (v0 : Nat) (ho_v0 : kd v0 = 3) (v1 : Int32) : MV y_Reader_shapeOther rm_Reader_shapeOther prog_9_method_11_code 2 (fun a => [.ref (a v0), .int v1]) (Reader_shapeOther v0 v1) := by
  refine mv_of (by decide) (fun _ => le_ rfl) ?_
  intro k res σ C hR hRm hnL h
  unfold Reader_shapeOther at h
  show WW k 0 [(0, .ref (ad k v0)), (1, .int v1)] [] σ
  refine ww_iload_n C 1 rfl rfl (dq dk_Reader_shapeOther 0 rfl) ?_
  by_cases e0_104 : v1 = 104
  · rw [if_pos e0_104] at h
    refine ww_lookup (off := 155) C 156 (dq dk_Reader_shapeOther 1 rfl) (by decide) (by rw [e0_104] <;> rfl) (by decide) ?_
    refine ww_aload_n C 0 rfl rfl (dq dk_Reader_shapeOther 2 rfl) ?_
    refine ww_bipush C (dq dk_Reader_shapeOther 3 rfl) bp_19 ?_
    refine ww_bipush C (dq dk_Reader_shapeOther 4 rfl) bp_8 ?_
    refine ww_iconst C (dq dk_Reader_shapeOther 5 rfl) ic_0 ?_
    refine ww_iconst C (dq dk_Reader_shapeOther 6 rfl) ic_4 ?_
    refine ww_cVv (st := []) C (c_Reader_expect v0 ho_v0 19 8 0 4) cw_Reader_expect ho_v0 (lt_ rfl) rfl g_3_19 hRm ⟨⟨rfl, rfl⟩, le_ rfl, le_ rfl⟩ rfl rfl rfl (le_ rfl) (dq dk_Reader_shapeOther 7 rfl) h (fun σ1 h => ?_)
    refine ww_goto C 370 (dq dk_Reader_shapeOther 8 rfl) (by decide) ?_
    exact ww_vret C hR (dq dk_Reader_shapeOther 121 rfl) h
  rw [if_neg e0_104] at h
  by_cases e1_106 : v1 = 106
  · rw [if_pos e1_106] at h
    refine ww_lookup (off := 168) C 169 (dq dk_Reader_shapeOther 1 rfl) (by decide) (by rw [e1_106] <;> rfl) (by decide) ?_
    refine ww_aload_n C 0 rfl rfl (dq dk_Reader_shapeOther 9 rfl) ?_
    refine ww_bipush C (dq dk_Reader_shapeOther 10 rfl) bp_19 ?_
    refine ww_bipush C (dq dk_Reader_shapeOther 11 rfl) bp_8 ?_
    refine ww_iconst C (dq dk_Reader_shapeOther 12 rfl) ic_0 ?_
    refine ww_iconst C (dq dk_Reader_shapeOther 13 rfl) ic_1 ?_
    refine ww_cVv (st := []) C (c_Reader_expect v0 ho_v0 19 8 0 1) cw_Reader_expect ho_v0 (lt_ rfl) rfl g_3_19 hRm ⟨⟨rfl, rfl⟩, le_ rfl, le_ rfl⟩ rfl rfl rfl (le_ rfl) (dq dk_Reader_shapeOther 14 rfl) h (fun σ2 h => ?_)
    refine ww_goto C 370 (dq dk_Reader_shapeOther 15 rfl) (by decide) ?_
    exact ww_vret C hR (dq dk_Reader_shapeOther 121 rfl) h
  rw [if_neg e1_106] at h
  by_cases e2_129 : v1 = 129
  · rw [if_pos e2_129] at h
    refine ww_lookup (off := 181) C 182 (dq dk_Reader_shapeOther 1 rfl) (by decide) (by rw [e2_129] <;> rfl) (by decide) ?_
    refine ww_aload_n C 0 rfl rfl (dq dk_Reader_shapeOther 16 rfl) ?_
    refine ww_iconst C (dq dk_Reader_shapeOther 17 rfl) ic_3 ?_
    refine ww_iconst C (dq dk_Reader_shapeOther 18 rfl) ic_0 ?_
    refine ww_iconst C (dq dk_Reader_shapeOther 19 rfl) ic_4 ?_
    refine ww_cVv (st := []) C (c_Reader_expectOperand v0 ho_v0 3 0 4) cw_Reader_expectOperand ho_v0 (lt_ rfl) rfl g_3_8 hRm ⟨⟨rfl, rfl⟩, le_ rfl, le_ rfl⟩ rfl rfl rfl (le_ rfl) (dq dk_Reader_shapeOther 20 rfl) h (fun σ3 h => ?_)
    refine ww_goto C 370 (dq dk_Reader_shapeOther 21 rfl) (by decide) ?_
    exact ww_vret C hR (dq dk_Reader_shapeOther 121 rfl) h
  rw [if_neg e2_129] at h
  by_cases e3_131 : v1 = 131
  · rw [if_pos e3_131] at h
    refine ww_lookup (off := 191) C 192 (dq dk_Reader_shapeOther 1 rfl) (by decide) (by rw [e3_131] <;> rfl) (by decide) ?_
    refine ww_aload_n C 0 rfl rfl (dq dk_Reader_shapeOther 22 rfl) ?_
    refine ww_iconst C (dq dk_Reader_shapeOther 23 rfl) ic_3 ?_
    refine ww_iconst C (dq dk_Reader_shapeOther 24 rfl) ic_0 ?_
    refine ww_iconst C (dq dk_Reader_shapeOther 25 rfl) ic_1 ?_
    refine ww_cVv (st := []) C (c_Reader_expectOperand v0 ho_v0 3 0 1) cw_Reader_expectOperand ho_v0 (lt_ rfl) rfl g_3_8 hRm ⟨⟨rfl, rfl⟩, le_ rfl, le_ rfl⟩ rfl rfl rfl (le_ rfl) (dq dk_Reader_shapeOther 26 rfl) h (fun σ4 h => ?_)
    refine ww_goto C 370 (dq dk_Reader_shapeOther 27 rfl) (by decide) ?_
    exact ww_vret C hR (dq dk_Reader_shapeOther 121 rfl) h
  rw [if_neg e3_131] at h
  by_cases e4_133 : v1 = 133
  · rw [if_pos e4_133] at h
    refine ww_lookup (off := 201) C 202 (dq dk_Reader_shapeOther 1 rfl) (by decide) (by rw [e4_133] <;> rfl) (by decide) ?_
    refine ww_aload_n C 0 rfl rfl (dq dk_Reader_shapeOther 28 rfl) ?_
    refine ww_iconst C (dq dk_Reader_shapeOther 29 rfl) ic_1 ?_
    refine ww_bipush C (dq dk_Reader_shapeOther 30 rfl) bp_9 ?_
    refine ww_iconst C (dq dk_Reader_shapeOther 31 rfl) ic_0 ?_
    refine ww_cVv (st := []) C (c_Reader_expectOperand v0 ho_v0 1 9 0) cw_Reader_expectOperand ho_v0 (lt_ rfl) rfl g_3_8 hRm ⟨⟨rfl, rfl⟩, le_ rfl, le_ rfl⟩ rfl rfl rfl (le_ rfl) (dq dk_Reader_shapeOther 32 rfl) h (fun σ5 h => ?_)
    refine ww_goto C 370 (dq dk_Reader_shapeOther 33 rfl) (by decide) ?_
    exact ww_vret C hR (dq dk_Reader_shapeOther 121 rfl) h
  rw [if_neg e4_133] at h
  by_cases e5_137 : v1 = 137
  · rw [if_pos e5_137] at h
    refine ww_lookup (off := 212) C 213 (dq dk_Reader_shapeOther 1 rfl) (by decide) (by rw [e5_137] <;> rfl) (by decide) ?_
    refine ww_aload_n C 0 rfl rfl (dq dk_Reader_shapeOther 34 rfl) ?_
    refine ww_iconst C (dq dk_Reader_shapeOther 35 rfl) ic_1 ?_
    refine ww_bipush C (dq dk_Reader_shapeOther 36 rfl) bp_8 ?_
    refine ww_iconst C (dq dk_Reader_shapeOther 37 rfl) ic_0 ?_
    refine ww_cVv (st := []) C (c_Reader_expectOperand v0 ho_v0 1 8 0) cw_Reader_expectOperand ho_v0 (lt_ rfl) rfl g_3_8 hRm ⟨⟨rfl, rfl⟩, le_ rfl, le_ rfl⟩ rfl rfl rfl (le_ rfl) (dq dk_Reader_shapeOther 38 rfl) h (fun σ6 h => ?_)
    refine ww_goto C 370 (dq dk_Reader_shapeOther 39 rfl) (by decide) ?_
    exact ww_vret C hR (dq dk_Reader_shapeOther 121 rfl) h
  rw [if_neg e5_137] at h
  by_cases e6_139 : v1 = 139
  · rw [if_pos e6_139] at h
    refine ww_lookup (off := 223) C 224 (dq dk_Reader_shapeOther 1 rfl) (by decide) (by rw [e6_139] <;> rfl) (by decide) ?_
    refine ww_aload_n C 0 rfl rfl (dq dk_Reader_shapeOther 40 rfl) ?_
    refine ww_iconst C (dq dk_Reader_shapeOther 41 rfl) ic_2 ?_
    refine ww_bipush C (dq dk_Reader_shapeOther 42 rfl) bp_8 ?_
    refine ww_iconst C (dq dk_Reader_shapeOther 43 rfl) ic_0 ?_
    refine ww_cVv (st := []) C (c_Reader_expectOperand v0 ho_v0 2 8 0) cw_Reader_expectOperand ho_v0 (lt_ rfl) rfl g_3_8 hRm ⟨⟨rfl, rfl⟩, le_ rfl, le_ rfl⟩ rfl rfl rfl (le_ rfl) (dq dk_Reader_shapeOther 44 rfl) h (fun σ7 h => ?_)
    refine ww_goto C 370 (dq dk_Reader_shapeOther 45 rfl) (by decide) ?_
    exact ww_vret C hR (dq dk_Reader_shapeOther 121 rfl) h
  rw [if_neg e6_139] at h
  by_cases e7_141 : v1 = 141
  · rw [if_pos e7_141] at h
    refine ww_lookup (off := 234) C 235 (dq dk_Reader_shapeOther 1 rfl) (by decide) (by rw [e7_141] <;> rfl) (by decide) ?_
    refine ww_aload_n C 0 rfl rfl (dq dk_Reader_shapeOther 46 rfl) ?_
    refine ww_iconst C (dq dk_Reader_shapeOther 47 rfl) ic_2 ?_
    refine ww_bipush C (dq dk_Reader_shapeOther 48 rfl) bp_10 ?_
    refine ww_iconst C (dq dk_Reader_shapeOther 49 rfl) ic_0 ?_
    refine ww_cVv (st := []) C (c_Reader_expectOperand v0 ho_v0 2 10 0) cw_Reader_expectOperand ho_v0 (lt_ rfl) rfl g_3_8 hRm ⟨⟨rfl, rfl⟩, le_ rfl, le_ rfl⟩ rfl rfl rfl (le_ rfl) (dq dk_Reader_shapeOther 50 rfl) h (fun σ8 h => ?_)
    refine ww_goto C 370 (dq dk_Reader_shapeOther 51 rfl) (by decide) ?_
    exact ww_vret C hR (dq dk_Reader_shapeOther 121 rfl) h
  rw [if_neg e7_141] at h
  by_cases e8_144 : v1 = 144
  · rw [if_pos e8_144] at h
    refine ww_lookup (off := 245) C 246 (dq dk_Reader_shapeOther 1 rfl) (by decide) (by rw [e8_144] <;> rfl) (by decide) ?_
    refine ww_aload_n C 0 rfl rfl (dq dk_Reader_shapeOther 52 rfl) ?_
    refine ww_bipush C (dq dk_Reader_shapeOther 53 rfl) bp_21 ?_
    refine ww_iconst C (dq dk_Reader_shapeOther 54 rfl) ic_0 ?_
    refine ww_iconst C (dq dk_Reader_shapeOther 55 rfl) ic_0 ?_
    refine ww_iconst C (dq dk_Reader_shapeOther 56 rfl) ic_0 ?_
    refine ww_cVv (st := []) C (c_Reader_expect v0 ho_v0 21 0 0 0) cw_Reader_expect ho_v0 (lt_ rfl) rfl g_3_19 hRm ⟨⟨rfl, rfl⟩, le_ rfl, le_ rfl⟩ rfl rfl rfl (le_ rfl) (dq dk_Reader_shapeOther 57 rfl) h (fun σ9 h => ?_)
    refine ww_goto C 370 (dq dk_Reader_shapeOther 58 rfl) (by decide) ?_
    exact ww_vret C hR (dq dk_Reader_shapeOther 121 rfl) h
  rw [if_neg e8_144] at h
  by_cases e9_193 : v1 = 193
  · rw [if_pos e9_193] at h
    refine ww_lookup (off := 257) C 258 (dq dk_Reader_shapeOther 1 rfl) (by decide) (by rw [e9_193] <;> rfl) (by decide) ?_
    refine ww_aload_n C 0 rfl rfl (dq dk_Reader_shapeOther 59 rfl) ?_
    refine ww_iconst C (dq dk_Reader_shapeOther 60 rfl) ic_3 ?_
    refine ww_bipush C (dq dk_Reader_shapeOther 61 rfl) bp_14 ?_
    refine ww_iconst C (dq dk_Reader_shapeOther 62 rfl) ic_2 ?_
    refine ww_cVv (st := []) C (c_Reader_expectOperand v0 ho_v0 3 14 2) cw_Reader_expectOperand ho_v0 (lt_ rfl) rfl g_3_8 hRm ⟨⟨rfl, rfl⟩, le_ rfl, le_ rfl⟩ rfl rfl rfl (le_ rfl) (dq dk_Reader_shapeOther 63 rfl) h (fun σ10 h => ?_)
    refine ww_goto C 370 (dq dk_Reader_shapeOther 64 rfl) (by decide) ?_
    exact ww_vret C hR (dq dk_Reader_shapeOther 121 rfl) h
  rw [if_neg e9_193] at h
  by_cases e10_195 : v1 = 195
  · rw [if_pos e10_195] at h
    refine ww_lookup (off := 268) C 269 (dq dk_Reader_shapeOther 1 rfl) (by decide) (by rw [e10_195] <;> rfl) (by decide) ?_
    refine ww_aload_n C 0 rfl rfl (dq dk_Reader_shapeOther 65 rfl) ?_
    refine ww_bipush C (dq dk_Reader_shapeOther 66 rfl) bp_23 ?_
    refine ww_iconst C (dq dk_Reader_shapeOther 67 rfl) ic_0 ?_
    refine ww_iconst C (dq dk_Reader_shapeOther 68 rfl) ic_0 ?_
    refine ww_iconst C (dq dk_Reader_shapeOther 69 rfl) ic_0 ?_
    refine ww_cVv (st := []) C (c_Reader_expect v0 ho_v0 23 0 0 0) cw_Reader_expect ho_v0 (lt_ rfl) rfl g_3_19 hRm ⟨⟨rfl, rfl⟩, le_ rfl, le_ rfl⟩ rfl rfl rfl (le_ rfl) (dq dk_Reader_shapeOther 70 rfl) h (fun σ11 h => ?_)
    refine ww_goto C 370 (dq dk_Reader_shapeOther 71 rfl) (by decide) ?_
    exact ww_vret C hR (dq dk_Reader_shapeOther 121 rfl) h
  rw [if_neg e10_195] at h
  by_cases e11_199 : v1 = 199
  · rw [if_pos e11_199] at h
    refine ww_lookup (off := 280) C 281 (dq dk_Reader_shapeOther 1 rfl) (by decide) (by rw [e11_199] <;> rfl) (by decide) ?_
    refine ww_aload_n C 0 rfl rfl (dq dk_Reader_shapeOther 72 rfl) ?_
    refine ww_iconst C (dq dk_Reader_shapeOther 73 rfl) ic_3 ?_
    refine ww_bipush C (dq dk_Reader_shapeOther 74 rfl) bp_8 ?_
    refine ww_iconst C (dq dk_Reader_shapeOther 75 rfl) ic_4 ?_
    refine ww_cVv (st := []) C (c_Reader_expectOperand v0 ho_v0 3 8 4) cw_Reader_expectOperand ho_v0 (lt_ rfl) rfl g_3_8 hRm ⟨⟨rfl, rfl⟩, le_ rfl, le_ rfl⟩ rfl rfl rfl (le_ rfl) (dq dk_Reader_shapeOther 76 rfl) h (fun σ12 h => ?_)
    refine ww_goto C 370 (dq dk_Reader_shapeOther 77 rfl) (by decide) ?_
    exact ww_vret C hR (dq dk_Reader_shapeOther 121 rfl) h
  rw [if_neg e11_199] at h
  by_cases e12_232 : v1 = 232
  · rw [if_pos e12_232] at h
    refine ww_lookup (off := 291) C 292 (dq dk_Reader_shapeOther 1 rfl) (by decide) (by rw [e12_232] <;> rfl) (by decide) ?_
    refine ww_aload_n C 0 rfl rfl (dq dk_Reader_shapeOther 78 rfl) ?_
    refine ww_bipush C (dq dk_Reader_shapeOther 79 rfl) bp_26 ?_
    refine ww_bipush C (dq dk_Reader_shapeOther 80 rfl) bp_8 ?_
    refine ww_iconst C (dq dk_Reader_shapeOther 81 rfl) ic_0 ?_
    refine ww_iconst C (dq dk_Reader_shapeOther 82 rfl) ic_4 ?_
    refine ww_cVv (st := []) C (c_Reader_expect v0 ho_v0 26 8 0 4) cw_Reader_expect ho_v0 (lt_ rfl) rfl g_3_19 hRm ⟨⟨rfl, rfl⟩, le_ rfl, le_ rfl⟩ rfl rfl rfl (le_ rfl) (dq dk_Reader_shapeOther 83 rfl) h (fun σ13 h => ?_)
    refine ww_goto C 370 (dq dk_Reader_shapeOther 84 rfl) (by decide) ?_
    exact ww_vret C hR (dq dk_Reader_shapeOther 121 rfl) h
  rw [if_neg e12_232] at h
  by_cases e13_233 : v1 = 233
  · rw [if_pos e13_233] at h
    refine ww_lookup (off := 304) C 305 (dq dk_Reader_shapeOther 1 rfl) (by decide) (by rw [e13_233] <;> rfl) (by decide) ?_
    refine ww_aload_n C 0 rfl rfl (dq dk_Reader_shapeOther 85 rfl) ?_
    refine ww_bipush C (dq dk_Reader_shapeOther 86 rfl) bp_24 ?_
    refine ww_bipush C (dq dk_Reader_shapeOther 87 rfl) bp_8 ?_
    refine ww_iconst C (dq dk_Reader_shapeOther 88 rfl) ic_0 ?_
    refine ww_iconst C (dq dk_Reader_shapeOther 89 rfl) ic_4 ?_
    refine ww_cVv (st := []) C (c_Reader_expect v0 ho_v0 24 8 0 4) cw_Reader_expect ho_v0 (lt_ rfl) rfl g_3_19 hRm ⟨⟨rfl, rfl⟩, le_ rfl, le_ rfl⟩ rfl rfl rfl (le_ rfl) (dq dk_Reader_shapeOther 90 rfl) h (fun σ14 h => ?_)
    refine ww_goto C 370 (dq dk_Reader_shapeOther 91 rfl) (by decide) ?_
    exact ww_vret C hR (dq dk_Reader_shapeOther 121 rfl) h
  rw [if_neg e13_233] at h
  by_cases e14_235 : v1 = 235
  · rw [if_pos e14_235] at h
    refine ww_lookup (off := 317) C 318 (dq dk_Reader_shapeOther 1 rfl) (by decide) (by rw [e14_235] <;> rfl) (by decide) ?_
    refine ww_aload_n C 0 rfl rfl (dq dk_Reader_shapeOther 92 rfl) ?_
    refine ww_bipush C (dq dk_Reader_shapeOther 93 rfl) bp_24 ?_
    refine ww_bipush C (dq dk_Reader_shapeOther 94 rfl) bp_8 ?_
    refine ww_iconst C (dq dk_Reader_shapeOther 95 rfl) ic_0 ?_
    refine ww_iconst C (dq dk_Reader_shapeOther 96 rfl) ic_1 ?_
    refine ww_cVv (st := []) C (c_Reader_expect v0 ho_v0 24 8 0 1) cw_Reader_expect ho_v0 (lt_ rfl) rfl g_3_19 hRm ⟨⟨rfl, rfl⟩, le_ rfl, le_ rfl⟩ rfl rfl rfl (le_ rfl) (dq dk_Reader_shapeOther 97 rfl) h (fun σ15 h => ?_)
    refine ww_goto C 370 (dq dk_Reader_shapeOther 98 rfl) (by decide) ?_
    exact ww_vret C hR (dq dk_Reader_shapeOther 121 rfl) h
  rw [if_neg e14_235] at h
  by_cases e15_244 : v1 = 244
  · rw [if_pos e15_244] at h
    refine ww_lookup (off := 330) C 331 (dq dk_Reader_shapeOther 1 rfl) (by decide) (by rw [e15_244] <;> rfl) (by decide) ?_
    refine ww_aload_n C 0 rfl rfl (dq dk_Reader_shapeOther 99 rfl) ?_
    refine ww_bipush C (dq dk_Reader_shapeOther 100 rfl) bp_22 ?_
    refine ww_iconst C (dq dk_Reader_shapeOther 101 rfl) ic_0 ?_
    refine ww_iconst C (dq dk_Reader_shapeOther 102 rfl) ic_0 ?_
    refine ww_iconst C (dq dk_Reader_shapeOther 103 rfl) ic_0 ?_
    refine ww_cVv (st := []) C (c_Reader_expect v0 ho_v0 22 0 0 0) cw_Reader_expect ho_v0 (lt_ rfl) rfl g_3_19 hRm ⟨⟨rfl, rfl⟩, le_ rfl, le_ rfl⟩ rfl rfl rfl (le_ rfl) (dq dk_Reader_shapeOther 104 rfl) h (fun σ16 h => ?_)
    refine ww_goto C 370 (dq dk_Reader_shapeOther 105 rfl) (by decide) ?_
    exact ww_vret C hR (dq dk_Reader_shapeOther 121 rfl) h
  rw [if_neg e15_244] at h
  by_cases e16_247 : v1 = 247
  · rw [if_pos e16_247] at h
    refine ww_lookup (off := 342) C 343 (dq dk_Reader_shapeOther 1 rfl) (by decide) (by rw [e16_247] <;> rfl) (by decide) ?_
    refine ww_aload_n C 0 rfl rfl (dq dk_Reader_shapeOther 106 rfl) ?_
    refine ww_iconst C (dq dk_Reader_shapeOther 107 rfl) ic_3 ?_
    refine ww_bipush C (dq dk_Reader_shapeOther 108 rfl) bp_12 ?_
    refine ww_iconst C (dq dk_Reader_shapeOther 109 rfl) ic_0 ?_
    refine ww_cVv (st := []) C (c_Reader_expectOperand v0 ho_v0 3 12 0) cw_Reader_expectOperand ho_v0 (lt_ rfl) rfl g_3_8 hRm ⟨⟨rfl, rfl⟩, le_ rfl, le_ rfl⟩ rfl rfl rfl (le_ rfl) (dq dk_Reader_shapeOther 110 rfl) h (fun σ17 h => ?_)
    refine ww_goto C 370 (dq dk_Reader_shapeOther 111 rfl) (by decide) ?_
    exact ww_vret C hR (dq dk_Reader_shapeOther 121 rfl) h
  rw [if_neg e16_247] at h
  by_cases e17_255 : v1 = 255
  · rw [if_pos e17_255] at h
    refine ww_lookup (off := 353) C 354 (dq dk_Reader_shapeOther 1 rfl) (by decide) (by rw [e17_255] <;> rfl) (by decide) ?_
    refine ww_aload_n C 0 rfl rfl (dq dk_Reader_shapeOther 112 rfl) ?_
    refine ww_iconst C (dq dk_Reader_shapeOther 113 rfl) ic_3 ?_
    refine ww_bipush C (dq dk_Reader_shapeOther 114 rfl) bp_27 ?_
    refine ww_iconst C (dq dk_Reader_shapeOther 115 rfl) ic_0 ?_
    refine ww_cVv (st := []) C (c_Reader_expectOperand v0 ho_v0 3 27 0) cw_Reader_expectOperand ho_v0 (lt_ rfl) rfl g_3_8 hRm ⟨⟨rfl, rfl⟩, le_ rfl, le_ rfl⟩ rfl rfl rfl (le_ rfl) (dq dk_Reader_shapeOther 116 rfl) h (fun σ18 h => ?_)
    refine ww_goto C 370 (dq dk_Reader_shapeOther 117 rfl) (by decide) ?_
    exact ww_vret C hR (dq dk_Reader_shapeOther 121 rfl) h
  rw [if_neg e17_255] at h
  have ne0_104 := lv_neT (a := 104) e0_104 (by decide)
  have ne1_106 := lv_neT (a := 106) e1_106 (by decide)
  have ne2_129 := lv_neT (a := 129) e2_129 (by decide)
  have ne3_131 := lv_neT (a := 131) e3_131 (by decide)
  have ne4_133 := lv_neT (a := 133) e4_133 (by decide)
  have ne5_137 := lv_neT (a := 137) e5_137 (by decide)
  have ne6_139 := lv_neT (a := 139) e6_139 (by decide)
  have ne7_141 := lv_neT (a := 141) e7_141 (by decide)
  have ne8_144 := lv_neT (a := 144) e8_144 (by decide)
  have ne9_193 := lv_neT (a := 193) e9_193 (by decide)
  have ne10_195 := lv_neT (a := 195) e10_195 (by decide)
  have ne11_199 := lv_neT (a := 199) e11_199 (by decide)
  have ne12_232 := lv_neT (a := 232) e12_232 (by decide)
  have ne13_233 := lv_neT (a := 233) e13_233 (by decide)
  have ne14_235 := lv_neT (a := 235) e14_235 (by decide)
  have ne15_244 := lv_neT (a := 244) e15_244 (by decide)
  have ne16_247 := lv_neT (a := 247) e16_247 (by decide)
  have ne17_255 := lv_neT (a := 255) e17_255 (by decide)
  refine ww_lookup (off := 364) C 365 (dq dk_Reader_shapeOther 1 rfl) (by decide) (by show Op.lookupswitch.offset [(104, 155), (106, 168), (129, 181), (131, 191), (133, 201), (137, 212), (139, 223), (141, 234), (144, 245), (193, 257), (195, 268), (199, 280), (232, 291), (233, 304), (235, 317), (244, 330), (247, 342), (255, 353)] _ _ = _; rw [lv_osw (a := 104) e0_104 (by decide), lv_osw (a := 106) e1_106 (by decide), lv_osw (a := 129) e2_129 (by decide), lv_osw (a := 131) e3_131 (by decide), lv_osw (a := 133) e4_133 (by decide), lv_osw (a := 137) e5_137 (by decide), lv_osw (a := 139) e6_139 (by decide), lv_osw (a := 141) e7_141 (by decide), lv_osw (a := 144) e8_144 (by decide), lv_osw (a := 193) e9_193 (by decide), lv_osw (a := 195) e10_195 (by decide), lv_osw (a := 199) e11_199 (by decide), lv_osw (a := 232) e12_232 (by decide), lv_osw (a := 233) e13_233 (by decide), lv_osw (a := 235) e14_235 (by decide), lv_osw (a := 244) e15_244 (by decide), lv_osw (a := 247) e16_247 (by decide), lv_osw (a := 255) e17_255 (by decide)] <;> rfl) (by decide) ?_
  refine ww_aload_n C 0 rfl rfl (dq dk_Reader_shapeOther 118 rfl) ?_
  refine ww_iconst C (dq dk_Reader_shapeOther 119 rfl) ic_0 ?_
  refine ww_putZ C ko_Reader 3 ho_v0 (lt_ rfl) g_1_128 rfl rfl rfl rfl (Or.inl rfl) (dq dk_Reader_shapeOther 120 rfl) h (fun σ19 h => ?_)
  exact ww_vret C hR (dq dk_Reader_shapeOther 121 rfl) h
abbrev y_Reader_shape : MethodName := ⟨"BundleHouse$Reader", "shape", "(I)V"⟩
def dl_Reader_shape : List (Nat × Instr × Nat) := [(0, .iload_n 1, 1), (1, .bipush 64, 2), (3, .if_icmp .ge 11, 3), (6, .aload_n 0, 1), (7, .iload_n 1, 1), (8, .invokevirtual 99, 3), (11, .goto 92, 3), (14, .iload_n 1, 1), (15, .bipush 96, 2), (17, .if_icmp .ge 26, 3), (20, .aload_n 0, 1), (21, .bipush 17, 2), (23, .iload_n 1, 1), (24, .bipush 64, 2), (26, .isub, 1), (27, .bipush 8, 2), (29, .idiv, 1), (30, .iadd, 1), (31, .iconst 1, 1), (32, .iload_n 1, 1), (33, .bipush 7, 2), (35, .iand, 1), (36, .iconst 0, 1), (37, .invokevirtual 95, 3), (40, .goto 63, 3), (43, .iload_n 1, 1), (44, .bipush 112, 2), (46, .if_icmp .lt 22, 3), (49, .iload_n 1, 1), (50, .sipush 128, 3), (53, .if_icmp .ge 15, 3), (56, .aload_n 0, 1), (57, .iload_n 1, 1), (58, .bipush 112, 2), (60, .isub, 1), (61, .iconst 1, 1), (62, .invokevirtual 102, 3), (65, .goto 38, 3), (68, .iload_n 1, 1), (69, .sipush 184, 3), (72, .if_icmp .lt 26, 3), (75, .iload_n 1, 1), (76, .sipush 192, 3), (79, .if_icmp .ge 19, 3), (82, .aload_n 0, 1), (83, .bipush 8, 2), (85, .iconst 5, 1), (86, .iload_n 1, 1), (87, .sipush 184, 3), (90, .isub, 1), (91, .iconst 4, 1), (92, .invokevirtual 95, 3), (95, .goto 8, 3), (98, .aload_n 0, 1), (99, .iload_n 1, 1), (100, .invokevirtual 106, 3), (103, .return_, 1)]
set_option maxRecDepth 100000 in
theorem dk_Reader_shape : ∀ q ∈ dl_Reader_shape, decode prog_9_method_8_code q.1 = .ok q.2 := by decide +kernel
abbrev rm_Reader_shape : Room := { frames := 2, cells := 0, slots := 0, locals := 46 }
theorem cw_Reader_shape : CWV y_Reader_shape prog_9_method_8_code 2 none 1 := ⟨⟨g_3_26, g_1_4, by decide, by decide, by decide +kernel⟩, g_3_25, gs_1_6⟩
set_option maxHeartbeats 4000000 in
set_option maxRecDepth 100000 in
theorem t_Reader_shape_B68 {k : Cfg} {res : St} (C : Cx k prog_9_method_8_code "BundleHouse$Reader") (hR : RV k res) (hRm : k.2.2.2.1 = rm_Reader_shape) (hnL : k.2.2.2.2.2.2.2.2.2.2.2.1 = 2) (v0 : Nat) (v1 : Int32) (ho_v0 : kd v0 = 3) (σ : St) (h : Reader_shape_B68 v0 v1 σ = some res) : WW k 68 [(0, .ref (ad k v0)), (1, .int v1)] [] σ := by
  unfold Reader_shape_B68 at h
  refine ww_iload_n C 1 rfl rfl (dq dk_Reader_shape 38 rfl) ?_
  refine ww_sipush C (dq dk_Reader_shape 39 rfl) sp_184 ?_
  refine ww_icmp_lt C 98 (dq dk_Reader_shape 40 rfl) (by decide) h (fun h => ?_) (fun h => ?_)
  · refine ww_aload_n C 0 rfl rfl (dq dk_Reader_shape 53 rfl) ?_
    refine ww_iload_n C 1 rfl rfl (dq dk_Reader_shape 54 rfl) ?_
    refine ww_cVv (st := []) C (c_Reader_shapeOther v0 ho_v0 v1) cw_Reader_shapeOther ho_v0 (lt_ rfl) rfl g_3_31 hRm ⟨⟨rfl, rfl⟩, le_ rfl, le_ rfl⟩ rfl rfl rfl (le_ rfl) (dq dk_Reader_shape 55 rfl) h (fun σ1 h => ?_)
    exact ww_vret C hR (dq dk_Reader_shape 56 rfl) h
  · refine ww_iload_n C 1 rfl rfl (dq dk_Reader_shape 41 rfl) ?_
    refine ww_sipush C (dq dk_Reader_shape 42 rfl) sp_192 ?_
    refine ww_icmp_ge C 98 (dq dk_Reader_shape 43 rfl) (by decide) h (fun h => ?_) (fun h => ?_)
    · refine ww_aload_n C 0 rfl rfl (dq dk_Reader_shape 53 rfl) ?_
      refine ww_iload_n C 1 rfl rfl (dq dk_Reader_shape 54 rfl) ?_
      refine ww_cVv (st := []) C (c_Reader_shapeOther v0 ho_v0 v1) cw_Reader_shapeOther ho_v0 (lt_ rfl) rfl g_3_31 hRm ⟨⟨rfl, rfl⟩, le_ rfl, le_ rfl⟩ rfl rfl rfl (le_ rfl) (dq dk_Reader_shape 55 rfl) h (fun σ2 h => ?_)
      exact ww_vret C hR (dq dk_Reader_shape 56 rfl) h
    · refine ww_aload_n C 0 rfl rfl (dq dk_Reader_shape 44 rfl) ?_
      refine ww_bipush C (dq dk_Reader_shape 45 rfl) bp_8 ?_
      refine ww_iconst C (dq dk_Reader_shape 46 rfl) ic_5 ?_
      refine ww_iload_n C 1 rfl rfl (dq dk_Reader_shape 47 rfl) ?_
      refine ww_sipush C (dq dk_Reader_shape 48 rfl) sp_184 ?_
      refine ww_isub C (dq dk_Reader_shape 49 rfl) ?_
      refine ww_iconst C (dq dk_Reader_shape 50 rfl) ic_4 ?_
      refine ww_cVv (st := []) C (c_Reader_expect v0 ho_v0 8 5 (v1 - 184) 4) cw_Reader_expect ho_v0 (lt_ rfl) rfl g_3_19 hRm ⟨⟨rfl, rfl⟩, le_ rfl, le_ rfl⟩ rfl rfl rfl (le_ rfl) (dq dk_Reader_shape 51 rfl) h (fun σ3 h => ?_)
      refine ww_goto C 103 (dq dk_Reader_shape 52 rfl) (by decide) ?_
      exact ww_vret C hR (dq dk_Reader_shape 56 rfl) h
set_option maxHeartbeats 4000000 in
set_option maxRecDepth 100000 in
theorem c_Reader_shape (v0 : Nat) (ho_v0 : kd v0 = 3) (v1 : Int32) : MV y_Reader_shape rm_Reader_shape prog_9_method_8_code 2 (fun a => [.ref (a v0), .int v1]) (Reader_shape v0 v1) := by
  refine mv_of (by decide) (fun _ => le_ rfl) ?_
  intro k res σ C hR hRm hnL h
  unfold Reader_shape at h
  show WW k 0 [(0, .ref (ad k v0)), (1, .int v1)] [] σ
  refine ww_iload_n C 1 rfl rfl (dq dk_Reader_shape 0 rfl) ?_
  refine ww_bipush C (dq dk_Reader_shape 1 rfl) bp_64 ?_
  refine ww_icmp_ge C 14 (dq dk_Reader_shape 2 rfl) (by decide) h (fun h => ?_) (fun h => ?_)
  · refine ww_iload_n C 1 rfl rfl (dq dk_Reader_shape 7 rfl) ?_
    refine ww_bipush C (dq dk_Reader_shape 8 rfl) bp_96 ?_
    refine ww_icmp_ge C 43 (dq dk_Reader_shape 9 rfl) (by decide) h (fun h => ?_) (fun h => ?_)
    · refine ww_iload_n C 1 rfl rfl (dq dk_Reader_shape 25 rfl) ?_
      refine ww_bipush C (dq dk_Reader_shape 26 rfl) bp_112 ?_
      refine ww_icmp_lt C 68 (dq dk_Reader_shape 27 rfl) (by decide) h (fun h => ?_) (fun h => ?_)
      · exact ww_lv [0, 1] rfl (t_Reader_shape_B68 C hR hRm hnL v0 v1 ho_v0 σ h)
      · refine ww_iload_n C 1 rfl rfl (dq dk_Reader_shape 28 rfl) ?_
        refine ww_sipush C (dq dk_Reader_shape 29 rfl) sp_128 ?_
        refine ww_icmp_ge C 68 (dq dk_Reader_shape 30 rfl) (by decide) h (fun h => ?_) (fun h => ?_)
        · exact ww_lv [0, 1] rfl (t_Reader_shape_B68 C hR hRm hnL v0 v1 ho_v0 σ h)
        · refine ww_aload_n C 0 rfl rfl (dq dk_Reader_shape 31 rfl) ?_
          refine ww_iload_n C 1 rfl rfl (dq dk_Reader_shape 32 rfl) ?_
          refine ww_bipush C (dq dk_Reader_shape 33 rfl) bp_112 ?_
          refine ww_isub C (dq dk_Reader_shape 34 rfl) ?_
          refine ww_iconst C (dq dk_Reader_shape 35 rfl) ic_1 ?_
          refine ww_cVv (st := []) C (c_Reader_expectBranch v0 ho_v0 (v1 - 112) 1) cw_Reader_expectBranch ho_v0 (lt_ rfl) rfl g_3_12 hRm ⟨⟨rfl, rfl⟩, le_ rfl, le_ rfl⟩ rfl rfl rfl (le_ rfl) (dq dk_Reader_shape 36 rfl) h (fun σ1 h => ?_)
          refine ww_goto C 103 (dq dk_Reader_shape 37 rfl) (by decide) ?_
          exact ww_vret C hR (dq dk_Reader_shape 56 rfl) h
    · refine ww_aload_n C 0 rfl rfl (dq dk_Reader_shape 10 rfl) ?_
      refine ww_bipush C (dq dk_Reader_shape 11 rfl) bp_17 ?_
      refine ww_iload_n C 1 rfl rfl (dq dk_Reader_shape 12 rfl) ?_
      refine ww_bipush C (dq dk_Reader_shape 13 rfl) bp_64 ?_
      refine ww_isub C (dq dk_Reader_shape 14 rfl) ?_
      refine ww_bipush C (dq dk_Reader_shape 15 rfl) bp_8 ?_
      refine ww_idiv C (by decide) (dq dk_Reader_shape 16 rfl) ?_
      refine ww_iadd C (dq dk_Reader_shape 17 rfl) ?_
      refine ww_iconst C (dq dk_Reader_shape 18 rfl) ic_1 ?_
      refine ww_iload_n C 1 rfl rfl (dq dk_Reader_shape 19 rfl) ?_
      refine ww_bipush C (dq dk_Reader_shape 20 rfl) bp_7 ?_
      refine ww_iand C (dq dk_Reader_shape 21 rfl) ?_
      refine ww_iconst C (dq dk_Reader_shape 22 rfl) ic_0 ?_
      refine ww_cVv (st := []) C (c_Reader_expect v0 ho_v0 (17 + ((v1 - 64) / 8)) 1 (v1 &&& 7) 0) cw_Reader_expect ho_v0 (lt_ rfl) rfl g_3_19 hRm ⟨⟨rfl, rfl⟩, le_ rfl, le_ rfl⟩ rfl rfl rfl (le_ rfl) (dq dk_Reader_shape 23 rfl) h (fun σ2 h => ?_)
      refine ww_goto C 103 (dq dk_Reader_shape 24 rfl) (by decide) ?_
      exact ww_vret C hR (dq dk_Reader_shape 56 rfl) h
  · refine ww_aload_n C 0 rfl rfl (dq dk_Reader_shape 3 rfl) ?_
    refine ww_iload_n C 1 rfl rfl (dq dk_Reader_shape 4 rfl) ?_
    refine ww_cVv (st := []) C (c_Reader_shapeArithmetic v0 ho_v0 v1) cw_Reader_shapeArithmetic ho_v0 (lt_ rfl) rfl g_3_27 hRm ⟨⟨rfl, rfl⟩, le_ rfl, le_ rfl⟩ rfl rfl rfl (le_ rfl) (dq dk_Reader_shape 5 rfl) h (fun σ3 h => ?_)
    refine ww_goto C 103 (dq dk_Reader_shape 6 rfl) (by decide) ?_
    exact ww_vret C hR (dq dk_Reader_shape 56 rfl) h
abbrev y_Reader_shapeBehind15 : MethodName := ⟨"BundleHouse$Reader", "shapeBehind15", "(I)V"⟩
def dl_Reader_shapeBehind15 : List (Nat × Instr × Nat) := [(0, .iload_n 1, 1), (1, .sipush 175, 3), (4, .if_icmp .ne 14, 3), (7, .aload_n 0, 1), (8, .iconst 2, 1), (9, .bipush 11, 2), (11, .iconst 0, 1), (12, .invokevirtual 109, 3), (15, .goto 35, 3), (18, .iload_n 1, 1), (19, .sipush 128, 3), (22, .if_icmp .lt 23, 3), (25, .iload_n 1, 1), (26, .sipush 144, 3), (29, .if_icmp .ge 16, 3), (32, .aload_n 0, 1), (33, .iload_n 1, 1), (34, .sipush 128, 3), (37, .isub, 1), (38, .iconst 4, 1), (39, .invokevirtual 102, 3), (42, .goto 8, 3), (45, .aload_n 0, 1), (46, .iconst 0, 1), (47, .putfield 26, 3), (50, .return_, 1)]
set_option maxRecDepth 100000 in
theorem dk_Reader_shapeBehind15 : ∀ q ∈ dl_Reader_shapeBehind15, decode prog_9_method_10_code q.1 = .ok q.2 := by decide +kernel
abbrev rm_Reader_shapeBehind15 : Room := { frames := 2, cells := 0, slots := 0, locals := 46 }
theorem cw_Reader_shapeBehind15 : CWV y_Reader_shapeBehind15 prog_9_method_10_code 2 none 1 := ⟨⟨g_3_7, g_1_4, by decide, by decide, by decide +kernel⟩, g_3_6, gs_1_2⟩
set_option maxHeartbeats 4000000 in
set_option maxRecDepth 100000 in
theorem c_Reader_shapeBehind15 (v0 : Nat) (ho_v0 : kd v0 = 3) (v1 : Int32) : MV y_Reader_shapeBehind15 rm_Reader_shapeBehind15 prog_9_method_10_code 2 (fun a => [.ref (a v0), .int v1]) (Reader_shapeBehind15 v0 v1) := by
  refine mv_of (by decide) (fun _ => le_ rfl) ?_
  intro k res σ C hR hRm hnL h
  unfold Reader_shapeBehind15 at h
  show WW k 0 [(0, .ref (ad k v0)), (1, .int v1)] [] σ
  refine ww_iload_n C 1 rfl rfl (dq dk_Reader_shapeBehind15 0 rfl) ?_
  refine ww_sipush C (dq dk_Reader_shapeBehind15 1 rfl) sp_175 ?_
  refine ww_icmp_ne C 18 (dq dk_Reader_shapeBehind15 2 rfl) (by decide) h (fun h => ?_) (fun h => ?_)
  · refine ww_iload_n C 1 rfl rfl (dq dk_Reader_shapeBehind15 9 rfl) ?_
    refine ww_sipush C (dq dk_Reader_shapeBehind15 10 rfl) sp_128 ?_
    refine ww_icmp_lt C 45 (dq dk_Reader_shapeBehind15 11 rfl) (by decide) h (fun h => ?_) (fun h => ?_)
    · refine ww_aload_n C 0 rfl rfl (dq dk_Reader_shapeBehind15 22 rfl) ?_
      refine ww_iconst C (dq dk_Reader_shapeBehind15 23 rfl) ic_0 ?_
      refine ww_putZ C ko_Reader 3 ho_v0 (lt_ rfl) g_1_128 rfl rfl rfl rfl (Or.inl rfl) (dq dk_Reader_shapeBehind15 24 rfl) h (fun σ1 h => ?_)
      exact ww_vret C hR (dq dk_Reader_shapeBehind15 25 rfl) h
    · refine ww_iload_n C 1 rfl rfl (dq dk_Reader_shapeBehind15 12 rfl) ?_
      refine ww_sipush C (dq dk_Reader_shapeBehind15 13 rfl) sp_144 ?_
      refine ww_icmp_ge C 45 (dq dk_Reader_shapeBehind15 14 rfl) (by decide) h (fun h => ?_) (fun h => ?_)
      · refine ww_aload_n C 0 rfl rfl (dq dk_Reader_shapeBehind15 22 rfl) ?_
        refine ww_iconst C (dq dk_Reader_shapeBehind15 23 rfl) ic_0 ?_
        refine ww_putZ C ko_Reader 3 ho_v0 (lt_ rfl) g_1_128 rfl rfl rfl rfl (Or.inl rfl) (dq dk_Reader_shapeBehind15 24 rfl) h (fun σ2 h => ?_)
        exact ww_vret C hR (dq dk_Reader_shapeBehind15 25 rfl) h
      · refine ww_aload_n C 0 rfl rfl (dq dk_Reader_shapeBehind15 15 rfl) ?_
        refine ww_iload_n C 1 rfl rfl (dq dk_Reader_shapeBehind15 16 rfl) ?_
        refine ww_sipush C (dq dk_Reader_shapeBehind15 17 rfl) sp_128 ?_
        refine ww_isub C (dq dk_Reader_shapeBehind15 18 rfl) ?_
        refine ww_iconst C (dq dk_Reader_shapeBehind15 19 rfl) ic_4 ?_
        refine ww_cVv (st := []) C (c_Reader_expectBranch v0 ho_v0 (v1 - 128) 4) cw_Reader_expectBranch ho_v0 (lt_ rfl) rfl g_3_12 hRm ⟨⟨rfl, rfl⟩, le_ rfl, le_ rfl⟩ rfl rfl rfl (le_ rfl) (dq dk_Reader_shapeBehind15 20 rfl) h (fun σ3 h => ?_)
        refine ww_goto C 50 (dq dk_Reader_shapeBehind15 21 rfl) (by decide) ?_
        exact ww_vret C hR (dq dk_Reader_shapeBehind15 25 rfl) h
  · refine ww_aload_n C 0 rfl rfl (dq dk_Reader_shapeBehind15 3 rfl) ?_
    refine ww_iconst C (dq dk_Reader_shapeBehind15 4 rfl) ic_2 ?_
    refine ww_bipush C (dq dk_Reader_shapeBehind15 5 rfl) bp_11 ?_
    refine ww_iconst C (dq dk_Reader_shapeBehind15 6 rfl) ic_0 ?_
    refine ww_cVv (st := []) C (c_Reader_expectOperand v0 ho_v0 2 11 0) cw_Reader_expectOperand ho_v0 (lt_ rfl) rfl g_3_8 hRm ⟨⟨rfl, rfl⟩, le_ rfl, le_ rfl⟩ rfl rfl rfl (le_ rfl) (dq dk_Reader_shapeBehind15 7 rfl) h (fun σ4 h => ?_)
    refine ww_goto C 50 (dq dk_Reader_shapeBehind15 8 rfl) (by decide) ?_
    exact ww_vret C hR (dq dk_Reader_shapeBehind15 25 rfl) h
abbrev y_Reader_take : MethodName := ⟨"BundleHouse$Reader", "take", "()I"⟩
def dl_Reader_take : List (Nat × Instr × Nat) := [(0, .aload_n 0, 1), (1, .getfield 22, 3), (4, .istore_n 1, 1), (5, .aload_n 0, 1), (6, .dup, 1), (7, .getfield 22, 3), (10, .iconst 1, 1), (11, .iadd, 1), (12, .putfield 22, 3), (15, .iload_n 1, 1), (16, .ifCond .lt 14, 3), (19, .iload_n 1, 1), (20, .aload_n 0, 1), (21, .getfield 18, 3), (24, .getfield 73, 3), (27, .if_icmp .lt 10, 3), (30, .aload_n 0, 1), (31, .iconst 0, 1), (32, .putfield 26, 3), (35, .iconst 0, 1), (36, .ireturn, 1), (37, .aload_n 0, 1), (38, .getfield 18, 3), (41, .getfield 78, 3), (44, .iload_n 1, 1), (45, .iaload, 1), (46, .ireturn, 1)]
set_option maxRecDepth 100000 in
theorem dk_Reader_take : ∀ q ∈ dl_Reader_take, decode prog_9_method_3_code q.1 = .ok q.2 := by decide +kernel
abbrev rm_Reader_take : Room := { frames := 0, cells := 0, slots := 0, locals := 0 }
theorem cw_Reader_take : CWV y_Reader_take prog_9_method_3_code 2 (some .int) 0 := ⟨⟨g_3_3, g_1_4, by decide, by decide, by decide +kernel⟩, g_3_2, gs_1_1⟩
set_option maxHeartbeats 4000000 in
set_option maxRecDepth 100000 in
theorem c_Reader_take (v0 : Nat) (ho_v0 : kd v0 = 3) : MI y_Reader_take rm_Reader_take prog_9_method_3_code 2 .int (fun a => [.ref (a v0)]) (Reader_take v0) := by
  refine mi_of (by decide) (fun _ => le_ rfl) ?_
  intro k res σ C hR hRm hnL h
  unfold Reader_take at h
  show WW k 0 [(0, .ref (ad k v0))] [] σ
  refine ww_aload_n C 0 rfl rfl (dq dk_Reader_take 0 rfl) ?_
  refine ww_geti C ko_Reader 2 ho_v0 (lt_ rfl) g_1_127 rfl rfl (dq dk_Reader_take 1 rfl) ?_
  refine ww_nmi h (fun x1 h => ?_)
  refine ww_istore_n C [(1, .int x1), (0, .ref (ad k v0))] rfl hnL (lt_ rfl) rfl (dq dk_Reader_take 2 rfl) ?_
  refine ww_aload_n C 1 rfl rfl (dq dk_Reader_take 3 rfl) ?_
  refine ww_dup C rfl (dq dk_Reader_take 4 rfl) ?_
  refine ww_geti C ko_Reader 2 ho_v0 (lt_ rfl) g_1_127 rfl rfl (dq dk_Reader_take 5 rfl) ?_
  refine ww_iconst C (dq dk_Reader_take 6 rfl) ic_1 ?_
  refine ww_iadd C (dq dk_Reader_take 7 rfl) ?_
  refine ww_puti C ko_Reader 2 ho_v0 (lt_ rfl) g_1_127 rfl rfl rfl rfl (dq dk_Reader_take 8 rfl) h (fun σ2 h => ?_)
  refine ww_iload_n C 0 rfl rfl (dq dk_Reader_take 9 rfl) ?_
  refine ww_if_lt C 30 (dq dk_Reader_take 10 rfl) (by decide) h (fun h => ?_) (fun h => ?_)
  · refine ww_aload_n C 1 rfl rfl (dq dk_Reader_take 16 rfl) ?_
    refine ww_iconst C (dq dk_Reader_take 17 rfl) ic_0 ?_
    refine ww_putZ C ko_Reader 3 ho_v0 (lt_ rfl) g_1_128 rfl rfl rfl rfl (Or.inl rfl) (dq dk_Reader_take 18 rfl) h (fun σ3 h => ?_)
    refine ww_iconst C (dq dk_Reader_take 19 rfl) ic_0 ?_
    exact ww_iret C hR (dq dk_Reader_take 20 rfl) h
  · refine ww_iload_n C 0 rfl rfl (dq dk_Reader_take 11 rfl) ?_
    refine ww_aload_n C 1 rfl rfl (dq dk_Reader_take 12 rfl) ?_
    refine ww_getr C ko_Reader 1 ho_v0 (lt_ rfl) g_1_126 rfl rfl (dq dk_Reader_take 13 rfl) ?_
    refine ww_geti C ko_Strip 2 (kc_Reader_1 _ ho_v0) (lt_ rfl) g_1_42 rfl rfl (dq dk_Reader_take 14 rfl) ?_
    refine ww_icmp_lt C 37 (dq dk_Reader_take 15 rfl) (by decide) h (fun h => ?_) (fun h => ?_)
    · refine ww_aload_n C 1 rfl rfl (dq dk_Reader_take 21 rfl) ?_
      refine ww_getr C ko_Reader 1 ho_v0 (lt_ rfl) g_1_126 rfl rfl (dq dk_Reader_take 22 rfl) ?_
      refine ww_getr C ko_Strip 0 (kc_Reader_1 _ ho_v0) (lt_ rfl) g_1_37 rfl rfl (dq dk_Reader_take 23 rfl) ?_
      refine ww_iload_n C 0 rfl rfl (dq dk_Reader_take 24 rfl) ?_
      refine ww_iald C (kc_Strip_0 _ (kc_Reader_1 _ ho_v0)).1 (kc_Strip_0 _ (kc_Reader_1 _ ho_v0)).2 (dq dk_Reader_take 25 rfl) h (fun x4 h => ?_)
      exact ww_iret C hR (dq dk_Reader_take 26 rfl) h
    · refine ww_aload_n C 1 rfl rfl (dq dk_Reader_take 16 rfl) ?_
      refine ww_iconst C (dq dk_Reader_take 17 rfl) ic_0 ?_
      refine ww_putZ C ko_Reader 3 ho_v0 (lt_ rfl) g_1_128 rfl rfl rfl rfl (Or.inl rfl) (dq dk_Reader_take 18 rfl) h (fun σ5 h => ?_)
      refine ww_iconst C (dq dk_Reader_take 19 rfl) ic_0 ?_
      exact ww_iret C hR (dq dk_Reader_take 20 rfl) h
abbrev y_Reader_takeNumber : MethodName := ⟨"BundleHouse$Reader", "takeNumber", "(I)I"⟩
def dl_Reader_takeNumber : List (Nat × Instr × Nat) := [(0, .iload_n 1, 1), (1, .ifCond .ne 5, 3), (4, .iconst 0, 1), (5, .ireturn, 1), (6, .aload_n 0, 1), (7, .invokevirtual 40, 3), (10, .istore_n 2, 1), (11, .iload_n 1, 1), (12, .iconst 1, 1), (13, .if_icmp .ne 6, 3), (16, .iload_n 2, 1), (17, .i2b, 1), (18, .ireturn, 1), (19, .iload_n 1, 1), (20, .iconst 4, 1), (21, .if_icmp .ne 33, 3), (24, .iload_n 2, 1), (25, .aload_n 0, 1), (26, .invokevirtual 40, 3), (29, .bipush 8, 2), (31, .ishl, 1), (32, .ior, 1), (33, .istore_n 2, 1), (34, .iload_n 2, 1), (35, .aload_n 0, 1), (36, .invokevirtual 40, 3), (39, .bipush 16, 2), (41, .ishl, 1), (42, .ior, 1), (43, .istore_n 2, 1), (44, .iload_n 2, 1), (45, .aload_n 0, 1), (46, .invokevirtual 40, 3), (49, .bipush 24, 2), (51, .ishl, 1), (52, .ior, 1), (53, .istore_n 2, 1), (54, .iload_n 2, 1), (55, .ireturn, 1)]
set_option maxRecDepth 100000 in
theorem dk_Reader_takeNumber : ∀ q ∈ dl_Reader_takeNumber, decode prog_9_method_4_code q.1 = .ok q.2 := by decide +kernel
abbrev rm_Reader_takeNumber : Room := { frames := 1, cells := 0, slots := 0, locals := 21 }
theorem cw_Reader_takeNumber : CWV y_Reader_takeNumber prog_9_method_4_code 3 (some .int) 1 := ⟨⟨g_3_50, g_1_4, by decide, by decide, by decide +kernel⟩, g_3_49, gs_1_12⟩
set_option maxHeartbeats 4000000 in
set_option maxRecDepth 100000 in
theorem c_Reader_takeNumber (v0 : Nat) (ho_v0 : kd v0 = 3) (v1 : Int32) : MI y_Reader_takeNumber rm_Reader_takeNumber prog_9_method_4_code 3 .int (fun a => [.ref (a v0), .int v1]) (Reader_takeNumber v0 v1) := by
  refine mi_of (by decide) (fun _ => le_ rfl) ?_
  intro k res σ C hR hRm hnL h
  unfold Reader_takeNumber at h
  show WW k 0 [(0, .ref (ad k v0)), (1, .int v1)] [] σ
  refine ww_iload_n C 1 rfl rfl (dq dk_Reader_takeNumber 0 rfl) ?_
  refine ww_if_ne C 6 (dq dk_Reader_takeNumber 1 rfl) (by decide) h (fun h => ?_) (fun h => ?_)
  · refine ww_aload_n C 0 rfl rfl (dq dk_Reader_takeNumber 4 rfl) ?_
    refine ww_cVi (st := []) C (c_Reader_take v0 ho_v0) cw_Reader_take ho_v0 (lt_ rfl) rfl g_3_0 hRm ⟨⟨rfl, rfl⟩, le_ rfl, le_ rfl⟩ rfl rfl rfl (le_ rfl) (dq dk_Reader_takeNumber 5 rfl) h (fun x2 σ1 h => ?_)
    refine ww_istore_n C [(2, .int x2), (0, .ref (ad k v0)), (1, .int v1)] rfl hnL (lt_ rfl) rfl (dq dk_Reader_takeNumber 6 rfl) ?_
    refine ww_iload_n C 2 rfl rfl (dq dk_Reader_takeNumber 7 rfl) ?_
    refine ww_iconst C (dq dk_Reader_takeNumber 8 rfl) ic_1 ?_
    refine ww_icmp_ne C 19 (dq dk_Reader_takeNumber 9 rfl) (by decide) h (fun h => ?_) (fun h => ?_)
    · refine ww_iload_n C 2 rfl rfl (dq dk_Reader_takeNumber 13 rfl) ?_
      refine ww_iconst C (dq dk_Reader_takeNumber 14 rfl) ic_4 ?_
      refine ww_icmp_ne C 54 (dq dk_Reader_takeNumber 15 rfl) (by decide) h (fun h => ?_) (fun h => ?_)
      · refine ww_iload_n C 0 rfl rfl (dq dk_Reader_takeNumber 37 rfl) ?_
        exact ww_iret C hR (dq dk_Reader_takeNumber 38 rfl) h
      · refine ww_iload_n C 0 rfl rfl (dq dk_Reader_takeNumber 16 rfl) ?_
        refine ww_aload_n C 1 rfl rfl (dq dk_Reader_takeNumber 17 rfl) ?_
        refine ww_cVi (st := [.int x2]) C (c_Reader_take v0 ho_v0) cw_Reader_take ho_v0 (lt_ rfl) rfl g_3_0 hRm ⟨⟨rfl, rfl⟩, le_ rfl, le_ rfl⟩ rfl rfl rfl (le_ rfl) (dq dk_Reader_takeNumber 18 rfl) h (fun x4 σ3 h => ?_)
        refine ww_bipush C (dq dk_Reader_takeNumber 19 rfl) bp_8 ?_
        refine ww_ishl C (dq dk_Reader_takeNumber 20 rfl) ?_
        refine ww_ior C (dq dk_Reader_takeNumber 21 rfl) ?_
        refine ww_nmi h (fun x5 h => ?_)
        refine ww_istore_n C [(2, .int x5), (0, .ref (ad k v0)), (1, .int v1)] rfl hnL (lt_ rfl) rfl (dq dk_Reader_takeNumber 22 rfl) ?_
        refine ww_iload_n C 0 rfl rfl (dq dk_Reader_takeNumber 23 rfl) ?_
        refine ww_aload_n C 1 rfl rfl (dq dk_Reader_takeNumber 24 rfl) ?_
        refine ww_cVi (st := [.int x5]) C (c_Reader_take v0 ho_v0) cw_Reader_take ho_v0 (lt_ rfl) rfl g_3_0 hRm ⟨⟨rfl, rfl⟩, le_ rfl, le_ rfl⟩ rfl rfl rfl (le_ rfl) (dq dk_Reader_takeNumber 25 rfl) h (fun x7 σ6 h => ?_)
        refine ww_bipush C (dq dk_Reader_takeNumber 26 rfl) bp_16 ?_
        refine ww_ishl C (dq dk_Reader_takeNumber 27 rfl) ?_
        refine ww_ior C (dq dk_Reader_takeNumber 28 rfl) ?_
        refine ww_nmi h (fun x8 h => ?_)
        refine ww_istore_n C [(2, .int x8), (0, .ref (ad k v0)), (1, .int v1)] rfl hnL (lt_ rfl) rfl (dq dk_Reader_takeNumber 29 rfl) ?_
        refine ww_iload_n C 0 rfl rfl (dq dk_Reader_takeNumber 30 rfl) ?_
        refine ww_aload_n C 1 rfl rfl (dq dk_Reader_takeNumber 31 rfl) ?_
        refine ww_cVi (st := [.int x8]) C (c_Reader_take v0 ho_v0) cw_Reader_take ho_v0 (lt_ rfl) rfl g_3_0 hRm ⟨⟨rfl, rfl⟩, le_ rfl, le_ rfl⟩ rfl rfl rfl (le_ rfl) (dq dk_Reader_takeNumber 32 rfl) h (fun x10 σ9 h => ?_)
        refine ww_bipush C (dq dk_Reader_takeNumber 33 rfl) bp_24 ?_
        refine ww_ishl C (dq dk_Reader_takeNumber 34 rfl) ?_
        refine ww_ior C (dq dk_Reader_takeNumber 35 rfl) ?_
        refine ww_nmi h (fun x11 h => ?_)
        refine ww_istore_n C [(2, .int x11), (0, .ref (ad k v0)), (1, .int v1)] rfl hnL (lt_ rfl) rfl (dq dk_Reader_takeNumber 36 rfl) ?_
        refine ww_iload_n C 0 rfl rfl (dq dk_Reader_takeNumber 37 rfl) ?_
        exact ww_iret C hR (dq dk_Reader_takeNumber 38 rfl) h
    · refine ww_iload_n C 0 rfl rfl (dq dk_Reader_takeNumber 10 rfl) ?_
      refine ww_i2b C (dq dk_Reader_takeNumber 11 rfl) ?_
      exact ww_iret C hR (dq dk_Reader_takeNumber 12 rfl) h
  · refine ww_iconst C (dq dk_Reader_takeNumber 2 rfl) ic_0 ?_
    exact ww_iret C hR (dq dk_Reader_takeNumber 3 rfl) h
abbrev y_Reader_takeOperand : MethodName := ⟨"BundleHouse$Reader", "takeOperand", "()V"⟩
def dl_Reader_takeOperand : List (Nat × Instr × Nat) := [(0, .aload_n 0, 1), (1, .invokevirtual 40, 3), (4, .istore_n 1, 1), (5, .iload_n 1, 1), (6, .bipush 6, 2), (8, .ishr, 1), (9, .istore_n 2, 1), (10, .aload_n 0, 1), (11, .iload_n 1, 1), (12, .iconst 3, 1), (13, .ishr, 1), (14, .bipush 7, 2), (16, .iand, 1), (17, .putfield 113, 3), (20, .aload_n 0, 1), (21, .iload_n 1, 1), (22, .bipush 7, 2), (24, .iand, 1), (25, .putfield 116, 3), (28, .aload_n 0, 1), (29, .iload_n 2, 1), (30, .iconst 3, 1), (31, .if_icmp .ne 7, 3), (34, .iconst 1, 1), (35, .goto 4, 3), (38, .iconst 0, 1), (39, .putfield 119, 3), (42, .aload_n 0, 1), (43, .iconst 0, 1), (44, .putfield 57, 3), (47, .aload_n 0, 1), (48, .getfield 119, 3), (51, .ifCond .eq 4, 3), (54, .return_, 1), (55, .aload_n 0, 1), (56, .getfield 116, 3), (59, .istore_n 3, 1), (60, .bipush 8, 2), (62, .istore 4, 2), (64, .iconst 0, 1), (65, .istore 5, 2), (67, .aload_n 0, 1), (68, .getfield 116, 3), (71, .iconst 4, 1), (72, .if_icmp .ne 42, 3), (75, .aload_n 0, 1), (76, .invokevirtual 40, 3), (79, .istore 6, 2), (81, .iload 6, 2), (83, .bipush 7, 2), (85, .iand, 1), (86, .istore_n 3, 1), (87, .iload 6, 2), (89, .iconst 3, 1), (90, .ishr, 1), (91, .bipush 7, 2), (93, .iand, 1), (94, .iconst 4, 1), (95, .if_icmp .eq 19, 3), (98, .iload 6, 2), (100, .iconst 3, 1), (101, .ishr, 1), (102, .bipush 7, 2), (104, .iand, 1), (105, .istore 4, 2), (107, .iload 6, 2), (109, .bipush 6, 2), (111, .ishr, 1), (112, .istore 5, 2), (114, .iload_n 2, 1), (115, .ifCond .ne 12, 3), (118, .iload_n 3, 1), (119, .iconst 5, 1), (120, .if_icmp .ne 7, 3), (123, .iconst 1, 1), (124, .goto 4, 3), (127, .iconst 0, 1), (128, .istore 6, 2), (130, .aload_n 0, 1), (131, .getfield 12, 3), (134, .iload 6, 2), (136, .ifCond .eq 8, 3), (139, .bipush 8, 2), (141, .goto 4, 3), (144, .iload_n 3, 1), (145, .bipush 16, 2), (147, .iload 4, 2), (149, .imul, 1), (150, .iadd, 1), (151, .sipush 256, 3), (154, .iload 5, 2), (156, .imul, 1), (157, .iadd, 1), (158, .putfield 122, 3), (161, .iload_n 2, 1), (162, .ifCond .ne 8, 3), (165, .iload 6, 2), (167, .ifCond .eq 17, 3), (170, .aload_n 0, 1), (171, .iload_n 2, 1), (172, .iconst 1, 1), (173, .if_icmp .ne 7, 3), (176, .iconst 1, 1), (177, .goto 4, 3), (180, .iconst 4, 1), (181, .putfield 57, 3), (184, .return_, 1)]
set_option maxRecDepth 100000 in
theorem dk_Reader_takeOperand : ∀ q ∈ dl_Reader_takeOperand, decode prog_9_method_12_code q.1 = .ok q.2 := by decide +kernel
abbrev rm_Reader_takeOperand : Room := { frames := 1, cells := 0, slots := 0, locals := 21 }
theorem cw_Reader_takeOperand : CWV y_Reader_takeOperand prog_9_method_12_code 7 none 0 := ⟨⟨g_3_38, g_1_4, by decide, by decide, by decide +kernel⟩, g_3_37, gs_1_9⟩
set_option maxHeartbeats 4000000 in
set_option maxRecDepth 100000 in
theorem t_Reader_takeOperand_B145 {k : Cfg} {res : St} (C : Cx k prog_9_method_12_code "BundleHouse$Reader") (hR : RV k res) (hRm : k.2.2.2.1 = rm_Reader_takeOperand) (hnL : k.2.2.2.2.2.2.2.2.2.2.2.1 = 7) (v0 : Nat) (v2 : Int32) (v4 : Int32) (v5 : Int32) (v6 : Int32) (t0 : Nat) (t1 : Int32) (ho_v0 : kd v0 = 3) (ho_t0 : kd t0 = 4) (σ : St) (h : Reader_takeOperand_B145 v0 v2 v4 v5 v6 t0 t1 σ = some res) : WW k 145 [(0, .ref (ad k v0)), (2, .int v2), (4, .int v4), (5, .int v5), (6, .int v6)] [.int t1, .ref (ad k t0)] σ := by
  unfold Reader_takeOperand_B145 at h
  refine ww_bipush C (dq dk_Reader_takeOperand 85 rfl) bp_16 ?_
  refine ww_iload C 2 rfl (dq dk_Reader_takeOperand 86 rfl) ?_
  refine ww_imul C (dq dk_Reader_takeOperand 87 rfl) ?_
  refine ww_iadd C (dq dk_Reader_takeOperand 88 rfl) ?_
  refine ww_sipush C (dq dk_Reader_takeOperand 89 rfl) sp_256 ?_
  refine ww_iload C 3 rfl (dq dk_Reader_takeOperand 90 rfl) ?_
  refine ww_imul C (dq dk_Reader_takeOperand 91 rfl) ?_
  refine ww_iadd C (dq dk_Reader_takeOperand 92 rfl) ?_
  refine ww_puti C ko_Instruction 3 ho_t0 (lt_ rfl) g_1_90 rfl rfl rfl rfl (dq dk_Reader_takeOperand 93 rfl) h (fun σ1 h => ?_)
  refine ww_iload_n C 1 rfl rfl (dq dk_Reader_takeOperand 94 rfl) ?_
  refine ww_if_ne C 170 (dq dk_Reader_takeOperand 95 rfl) (by decide) h (fun h => ?_) (fun h => ?_)
  · refine ww_aload_n C 0 rfl rfl (dq dk_Reader_takeOperand 98 rfl) ?_
    refine ww_iload_n C 1 rfl rfl (dq dk_Reader_takeOperand 99 rfl) ?_
    refine ww_iconst C (dq dk_Reader_takeOperand 100 rfl) ic_1 ?_
    refine ww_icmp_ne C 180 (dq dk_Reader_takeOperand 101 rfl) (by decide) h (fun h => ?_) (fun h => ?_)
    · refine ww_iconst C (dq dk_Reader_takeOperand 104 rfl) ic_4 ?_
      refine ww_puti C ko_Reader 6 ho_v0 (lt_ rfl) g_1_131 rfl rfl rfl rfl (dq dk_Reader_takeOperand 105 rfl) h (fun σ2 h => ?_)
      exact ww_vret C hR (dq dk_Reader_takeOperand 106 rfl) h
    · refine ww_iconst C (dq dk_Reader_takeOperand 102 rfl) ic_1 ?_
      refine ww_goto C 181 (dq dk_Reader_takeOperand 103 rfl) (by decide) ?_
      refine ww_puti C ko_Reader 6 ho_v0 (lt_ rfl) g_1_131 rfl rfl rfl rfl (dq dk_Reader_takeOperand 105 rfl) h (fun σ3 h => ?_)
      exact ww_vret C hR (dq dk_Reader_takeOperand 106 rfl) h
  · refine ww_iload C 4 rfl (dq dk_Reader_takeOperand 96 rfl) ?_
    refine ww_if_eq C 184 (dq dk_Reader_takeOperand 97 rfl) (by decide) h (fun h => ?_) (fun h => ?_)
    · exact ww_vret C hR (dq dk_Reader_takeOperand 106 rfl) h
    · refine ww_aload_n C 0 rfl rfl (dq dk_Reader_takeOperand 98 rfl) ?_
      refine ww_iload_n C 1 rfl rfl (dq dk_Reader_takeOperand 99 rfl) ?_
      refine ww_iconst C (dq dk_Reader_takeOperand 100 rfl) ic_1 ?_
      refine ww_icmp_ne C 180 (dq dk_Reader_takeOperand 101 rfl) (by decide) h (fun h => ?_) (fun h => ?_)
      · refine ww_iconst C (dq dk_Reader_takeOperand 104 rfl) ic_4 ?_
        refine ww_puti C ko_Reader 6 ho_v0 (lt_ rfl) g_1_131 rfl rfl rfl rfl (dq dk_Reader_takeOperand 105 rfl) h (fun σ4 h => ?_)
        exact ww_vret C hR (dq dk_Reader_takeOperand 106 rfl) h
      · refine ww_iconst C (dq dk_Reader_takeOperand 102 rfl) ic_1 ?_
        refine ww_goto C 181 (dq dk_Reader_takeOperand 103 rfl) (by decide) ?_
        refine ww_puti C ko_Reader 6 ho_v0 (lt_ rfl) g_1_131 rfl rfl rfl rfl (dq dk_Reader_takeOperand 105 rfl) h (fun σ5 h => ?_)
        exact ww_vret C hR (dq dk_Reader_takeOperand 106 rfl) h
set_option maxHeartbeats 4000000 in
set_option maxRecDepth 100000 in
theorem t_Reader_takeOperand_B39 {k : Cfg} {res : St} (C : Cx k prog_9_method_12_code "BundleHouse$Reader") (hR : RV k res) (hRm : k.2.2.2.1 = rm_Reader_takeOperand) (hnL : k.2.2.2.2.2.2.2.2.2.2.2.1 = 7) (v0 : Nat) (v2 : Int32) (t0 : Nat) (t1 : Int32) (ho_v0 : kd v0 = 3) (ho_t0 : kd t0 = 3) (σ : St) (h : Reader_takeOperand_B39 v0 v2 t0 t1 σ = some res) : WW k 39 [(0, .ref (ad k v0)), (2, .int v2)] [.int t1, .ref (ad k t0)] σ := by
  unfold Reader_takeOperand_B39 at h
  refine ww_putz C ko_Reader 7 ho_t0 (lt_ rfl) g_1_132 rfl rfl rfl rfl (dq dk_Reader_takeOperand 26 rfl) h (fun σ1 h => ?_)
  refine ww_aload_n C 0 rfl rfl (dq dk_Reader_takeOperand 27 rfl) ?_
  refine ww_iconst C (dq dk_Reader_takeOperand 28 rfl) ic_0 ?_
  refine ww_puti C ko_Reader 6 ho_v0 (lt_ rfl) g_1_131 rfl rfl rfl rfl (dq dk_Reader_takeOperand 29 rfl) h (fun σ2 h => ?_)
  refine ww_aload_n C 0 rfl rfl (dq dk_Reader_takeOperand 30 rfl) ?_
  refine ww_geti C ko_Reader 7 ho_v0 (lt_ rfl) g_1_132 rfl rfl (dq dk_Reader_takeOperand 31 rfl) ?_
  refine ww_if_eq C 55 (dq dk_Reader_takeOperand 32 rfl) (by decide) h (fun h => ?_) (fun h => ?_)
  · refine ww_aload_n C 0 rfl rfl (dq dk_Reader_takeOperand 34 rfl) ?_
    refine ww_geti C ko_Reader 9 ho_v0 (lt_ rfl) g_1_134 rfl rfl (dq dk_Reader_takeOperand 35 rfl) ?_
    refine ww_nmi h (fun x3 h => ?_)
    refine ww_istore_n C [(3, .int x3), (0, .ref (ad k v0)), (2, .int v2)] rfl hnL (lt_ rfl) rfl (dq dk_Reader_takeOperand 36 rfl) ?_
    refine ww_bipush C (dq dk_Reader_takeOperand 37 rfl) bp_8 ?_
    refine ww_istore C [(4, .int 8), (3, .int x3), (0, .ref (ad k v0)), (2, .int v2)] hnL (lt_ rfl) rfl (dq dk_Reader_takeOperand 38 rfl) ?_
    refine ww_iconst C (dq dk_Reader_takeOperand 39 rfl) ic_0 ?_
    refine ww_istore C [(5, .int 0), (4, .int 8), (3, .int x3), (0, .ref (ad k v0)), (2, .int v2)] hnL (lt_ rfl) rfl (dq dk_Reader_takeOperand 40 rfl) ?_
    refine ww_aload_n C 3 rfl rfl (dq dk_Reader_takeOperand 41 rfl) ?_
    refine ww_geti C ko_Reader 9 ho_v0 (lt_ rfl) g_1_134 rfl rfl (dq dk_Reader_takeOperand 42 rfl) ?_
    refine ww_iconst C (dq dk_Reader_takeOperand 43 rfl) ic_4 ?_
    refine ww_icmp_ne C 114 (dq dk_Reader_takeOperand 44 rfl) (by decide) h (fun h => ?_) (fun h => ?_)
    · refine ww_iload_n C 4 rfl rfl (dq dk_Reader_takeOperand 69 rfl) ?_
      refine ww_if_ne C 127 (dq dk_Reader_takeOperand 70 rfl) (by decide) h (fun h => ?_) (fun h => ?_)
      · refine ww_iconst C (dq dk_Reader_takeOperand 76 rfl) ic_0 ?_
        refine ww_istore C [(6, .int 0), (5, .int 0), (4, .int 8), (3, .int x3), (0, .ref (ad k v0)), (2, .int v2)] hnL (lt_ rfl) rfl (dq dk_Reader_takeOperand 77 rfl) ?_
        refine ww_aload_n C 4 rfl rfl (dq dk_Reader_takeOperand 78 rfl) ?_
        refine ww_getr C ko_Reader 0 ho_v0 (lt_ rfl) g_1_122 rfl rfl (dq dk_Reader_takeOperand 79 rfl) ?_
        refine ww_iload C 0 rfl (dq dk_Reader_takeOperand 80 rfl) ?_
        refine ww_if_eq C 144 (dq dk_Reader_takeOperand 81 rfl) (by decide) (ift (by decide) h) (fun h => ?_) (fun h => by cases h)
        refine ww_iload_n C 3 rfl rfl (dq dk_Reader_takeOperand 84 rfl) ?_
        exact ww_lv [4, 5, 2, 1, 0] rfl (t_Reader_takeOperand_B145 C hR hRm hnL v0 v2 8 0 0 (ch v0 0) x3 ho_v0 (kc_Reader_0 _ ho_v0) σ2 h)
      · refine ww_iload_n C 2 rfl rfl (dq dk_Reader_takeOperand 71 rfl) ?_
        refine ww_iconst C (dq dk_Reader_takeOperand 72 rfl) ic_5 ?_
        refine ww_icmp_ne C 127 (dq dk_Reader_takeOperand 73 rfl) (by decide) h (fun h => ?_) (fun h => ?_)
        · refine ww_iconst C (dq dk_Reader_takeOperand 76 rfl) ic_0 ?_
          refine ww_istore C [(6, .int 0), (5, .int 0), (4, .int 8), (3, .int x3), (0, .ref (ad k v0)), (2, .int v2)] hnL (lt_ rfl) rfl (dq dk_Reader_takeOperand 77 rfl) ?_
          refine ww_aload_n C 4 rfl rfl (dq dk_Reader_takeOperand 78 rfl) ?_
          refine ww_getr C ko_Reader 0 ho_v0 (lt_ rfl) g_1_122 rfl rfl (dq dk_Reader_takeOperand 79 rfl) ?_
          refine ww_iload C 0 rfl (dq dk_Reader_takeOperand 80 rfl) ?_
          refine ww_if_eq C 144 (dq dk_Reader_takeOperand 81 rfl) (by decide) (ift (by decide) h) (fun h => ?_) (fun h => by cases h)
          refine ww_iload_n C 3 rfl rfl (dq dk_Reader_takeOperand 84 rfl) ?_
          exact ww_lv [4, 5, 2, 1, 0] rfl (t_Reader_takeOperand_B145 C hR hRm hnL v0 v2 8 0 0 (ch v0 0) x3 ho_v0 (kc_Reader_0 _ ho_v0) σ2 h)
        · refine ww_iconst C (dq dk_Reader_takeOperand 74 rfl) ic_1 ?_
          refine ww_goto C 128 (dq dk_Reader_takeOperand 75 rfl) (by decide) ?_
          refine ww_istore C [(6, .int 1), (5, .int 0), (4, .int 8), (3, .int x3), (0, .ref (ad k v0)), (2, .int v2)] hnL (lt_ rfl) rfl (dq dk_Reader_takeOperand 77 rfl) ?_
          refine ww_aload_n C 4 rfl rfl (dq dk_Reader_takeOperand 78 rfl) ?_
          refine ww_getr C ko_Reader 0 ho_v0 (lt_ rfl) g_1_122 rfl rfl (dq dk_Reader_takeOperand 79 rfl) ?_
          refine ww_iload C 0 rfl (dq dk_Reader_takeOperand 80 rfl) ?_
          refine ww_if_eq C 144 (dq dk_Reader_takeOperand 81 rfl) (by decide) (ifn (by decide) h) (fun h => by cases h) (fun h => ?_)
          refine ww_bipush C (dq dk_Reader_takeOperand 82 rfl) bp_8 ?_
          refine ww_goto C 145 (dq dk_Reader_takeOperand 83 rfl) (by decide) ?_
          exact ww_lv [4, 5, 2, 1, 0] rfl (t_Reader_takeOperand_B145 C hR hRm hnL v0 v2 8 0 1 (ch v0 0) 8 ho_v0 (kc_Reader_0 _ ho_v0) σ2 h)
    · refine ww_aload_n C 3 rfl rfl (dq dk_Reader_takeOperand 45 rfl) ?_
      refine ww_cVi (st := []) C (c_Reader_take v0 ho_v0) cw_Reader_take ho_v0 (lt_ rfl) rfl g_3_0 hRm ⟨⟨rfl, rfl⟩, le_ rfl, le_ rfl⟩ rfl rfl rfl (le_ rfl) (dq dk_Reader_takeOperand 46 rfl) h (fun x5 σ4 h => ?_)
      refine ww_istore C [(6, .int x5), (5, .int 0), (4, .int 8), (3, .int x3), (0, .ref (ad k v0)), (2, .int v2)] hnL (lt_ rfl) rfl (dq dk_Reader_takeOperand 47 rfl) ?_
      refine ww_iload C 0 rfl (dq dk_Reader_takeOperand 48 rfl) ?_
      refine ww_bipush C (dq dk_Reader_takeOperand 49 rfl) bp_7 ?_
      refine ww_iand C (dq dk_Reader_takeOperand 50 rfl) ?_
      refine ww_nmi h (fun x6 h => ?_)
      refine ww_istore_n C [(3, .int x6), (6, .int x5), (5, .int 0), (4, .int 8), (0, .ref (ad k v0)), (2, .int v2)] rfl hnL (lt_ rfl) rfl (dq dk_Reader_takeOperand 51 rfl) ?_
      refine ww_iload C 1 rfl (dq dk_Reader_takeOperand 52 rfl) ?_
      refine ww_iconst C (dq dk_Reader_takeOperand 53 rfl) ic_3 ?_
      refine ww_ishr C (dq dk_Reader_takeOperand 54 rfl) ?_
      refine ww_bipush C (dq dk_Reader_takeOperand 55 rfl) bp_7 ?_
      refine ww_iand C (dq dk_Reader_takeOperand 56 rfl) ?_
      refine ww_iconst C (dq dk_Reader_takeOperand 57 rfl) ic_4 ?_
      refine ww_icmp_eq C 114 (dq dk_Reader_takeOperand 58 rfl) (by decide) h (fun h => ?_) (fun h => ?_)
      · refine ww_iload_n C 5 rfl rfl (dq dk_Reader_takeOperand 69 rfl) ?_
        refine ww_if_ne C 127 (dq dk_Reader_takeOperand 70 rfl) (by decide) h (fun h => ?_) (fun h => ?_)
        · refine ww_iconst C (dq dk_Reader_takeOperand 76 rfl) ic_0 ?_
          refine ww_istore C [(6, .int 0), (3, .int x6), (5, .int 0), (4, .int 8), (0, .ref (ad k v0)), (2, .int v2)] hnL (lt_ rfl) rfl (dq dk_Reader_takeOperand 77 rfl) ?_
          refine ww_aload_n C 4 rfl rfl (dq dk_Reader_takeOperand 78 rfl) ?_
          refine ww_getr C ko_Reader 0 ho_v0 (lt_ rfl) g_1_122 rfl rfl (dq dk_Reader_takeOperand 79 rfl) ?_
          refine ww_iload C 0 rfl (dq dk_Reader_takeOperand 80 rfl) ?_
          refine ww_if_eq C 144 (dq dk_Reader_takeOperand 81 rfl) (by decide) (ift (by decide) h) (fun h => ?_) (fun h => by cases h)
          refine ww_iload_n C 1 rfl rfl (dq dk_Reader_takeOperand 84 rfl) ?_
          exact ww_lv [4, 5, 3, 2, 0] rfl (t_Reader_takeOperand_B145 C hR hRm hnL v0 v2 8 0 0 (ch v0 0) x6 ho_v0 (kc_Reader_0 _ ho_v0) σ4 h)
        · refine ww_iload_n C 0 rfl rfl (dq dk_Reader_takeOperand 71 rfl) ?_
          refine ww_iconst C (dq dk_Reader_takeOperand 72 rfl) ic_5 ?_
          refine ww_icmp_ne C 127 (dq dk_Reader_takeOperand 73 rfl) (by decide) h (fun h => ?_) (fun h => ?_)
          · refine ww_iconst C (dq dk_Reader_takeOperand 76 rfl) ic_0 ?_
            refine ww_istore C [(6, .int 0), (3, .int x6), (5, .int 0), (4, .int 8), (0, .ref (ad k v0)), (2, .int v2)] hnL (lt_ rfl) rfl (dq dk_Reader_takeOperand 77 rfl) ?_
            refine ww_aload_n C 4 rfl rfl (dq dk_Reader_takeOperand 78 rfl) ?_
            refine ww_getr C ko_Reader 0 ho_v0 (lt_ rfl) g_1_122 rfl rfl (dq dk_Reader_takeOperand 79 rfl) ?_
            refine ww_iload C 0 rfl (dq dk_Reader_takeOperand 80 rfl) ?_
            refine ww_if_eq C 144 (dq dk_Reader_takeOperand 81 rfl) (by decide) (ift (by decide) h) (fun h => ?_) (fun h => by cases h)
            refine ww_iload_n C 1 rfl rfl (dq dk_Reader_takeOperand 84 rfl) ?_
            exact ww_lv [4, 5, 3, 2, 0] rfl (t_Reader_takeOperand_B145 C hR hRm hnL v0 v2 8 0 0 (ch v0 0) x6 ho_v0 (kc_Reader_0 _ ho_v0) σ4 h)
          · refine ww_iconst C (dq dk_Reader_takeOperand 74 rfl) ic_1 ?_
            refine ww_goto C 128 (dq dk_Reader_takeOperand 75 rfl) (by decide) ?_
            refine ww_istore C [(6, .int 1), (3, .int x6), (5, .int 0), (4, .int 8), (0, .ref (ad k v0)), (2, .int v2)] hnL (lt_ rfl) rfl (dq dk_Reader_takeOperand 77 rfl) ?_
            refine ww_aload_n C 4 rfl rfl (dq dk_Reader_takeOperand 78 rfl) ?_
            refine ww_getr C ko_Reader 0 ho_v0 (lt_ rfl) g_1_122 rfl rfl (dq dk_Reader_takeOperand 79 rfl) ?_
            refine ww_iload C 0 rfl (dq dk_Reader_takeOperand 80 rfl) ?_
            refine ww_if_eq C 144 (dq dk_Reader_takeOperand 81 rfl) (by decide) (ifn (by decide) h) (fun h => by cases h) (fun h => ?_)
            refine ww_bipush C (dq dk_Reader_takeOperand 82 rfl) bp_8 ?_
            refine ww_goto C 145 (dq dk_Reader_takeOperand 83 rfl) (by decide) ?_
            exact ww_lv [4, 5, 3, 2, 0] rfl (t_Reader_takeOperand_B145 C hR hRm hnL v0 v2 8 0 1 (ch v0 0) 8 ho_v0 (kc_Reader_0 _ ho_v0) σ4 h)
      · refine ww_iload C 1 rfl (dq dk_Reader_takeOperand 59 rfl) ?_
        refine ww_iconst C (dq dk_Reader_takeOperand 60 rfl) ic_3 ?_
        refine ww_ishr C (dq dk_Reader_takeOperand 61 rfl) ?_
        refine ww_bipush C (dq dk_Reader_takeOperand 62 rfl) bp_7 ?_
        refine ww_iand C (dq dk_Reader_takeOperand 63 rfl) ?_
        refine ww_nmi h (fun x7 h => ?_)
        refine ww_istore C [(4, .int x7), (3, .int x6), (6, .int x5), (5, .int 0), (0, .ref (ad k v0)), (2, .int v2)] hnL (lt_ rfl) rfl (dq dk_Reader_takeOperand 64 rfl) ?_
        refine ww_iload C 2 rfl (dq dk_Reader_takeOperand 65 rfl) ?_
        refine ww_bipush C (dq dk_Reader_takeOperand 66 rfl) bp_6 ?_
        refine ww_ishr C (dq dk_Reader_takeOperand 67 rfl) ?_
        refine ww_nmi h (fun x8 h => ?_)
        refine ww_istore C [(5, .int x8), (4, .int x7), (3, .int x6), (6, .int x5), (0, .ref (ad k v0)), (2, .int v2)] hnL (lt_ rfl) rfl (dq dk_Reader_takeOperand 68 rfl) ?_
        refine ww_iload_n C 5 rfl rfl (dq dk_Reader_takeOperand 69 rfl) ?_
        refine ww_if_ne C 127 (dq dk_Reader_takeOperand 70 rfl) (by decide) h (fun h => ?_) (fun h => ?_)
        · refine ww_iconst C (dq dk_Reader_takeOperand 76 rfl) ic_0 ?_
          refine ww_istore C [(6, .int 0), (5, .int x8), (4, .int x7), (3, .int x6), (0, .ref (ad k v0)), (2, .int v2)] hnL (lt_ rfl) rfl (dq dk_Reader_takeOperand 77 rfl) ?_
          refine ww_aload_n C 4 rfl rfl (dq dk_Reader_takeOperand 78 rfl) ?_
          refine ww_getr C ko_Reader 0 ho_v0 (lt_ rfl) g_1_122 rfl rfl (dq dk_Reader_takeOperand 79 rfl) ?_
          refine ww_iload C 0 rfl (dq dk_Reader_takeOperand 80 rfl) ?_
          refine ww_if_eq C 144 (dq dk_Reader_takeOperand 81 rfl) (by decide) (ift (by decide) h) (fun h => ?_) (fun h => by cases h)
          refine ww_iload_n C 3 rfl rfl (dq dk_Reader_takeOperand 84 rfl) ?_
          exact ww_lv [4, 5, 2, 1, 0] rfl (t_Reader_takeOperand_B145 C hR hRm hnL v0 v2 x7 x8 0 (ch v0 0) x6 ho_v0 (kc_Reader_0 _ ho_v0) σ4 h)
        · refine ww_iload_n C 2 rfl rfl (dq dk_Reader_takeOperand 71 rfl) ?_
          refine ww_iconst C (dq dk_Reader_takeOperand 72 rfl) ic_5 ?_
          refine ww_icmp_ne C 127 (dq dk_Reader_takeOperand 73 rfl) (by decide) h (fun h => ?_) (fun h => ?_)
          · refine ww_iconst C (dq dk_Reader_takeOperand 76 rfl) ic_0 ?_
            refine ww_istore C [(6, .int 0), (5, .int x8), (4, .int x7), (3, .int x6), (0, .ref (ad k v0)), (2, .int v2)] hnL (lt_ rfl) rfl (dq dk_Reader_takeOperand 77 rfl) ?_
            refine ww_aload_n C 4 rfl rfl (dq dk_Reader_takeOperand 78 rfl) ?_
            refine ww_getr C ko_Reader 0 ho_v0 (lt_ rfl) g_1_122 rfl rfl (dq dk_Reader_takeOperand 79 rfl) ?_
            refine ww_iload C 0 rfl (dq dk_Reader_takeOperand 80 rfl) ?_
            refine ww_if_eq C 144 (dq dk_Reader_takeOperand 81 rfl) (by decide) (ift (by decide) h) (fun h => ?_) (fun h => by cases h)
            refine ww_iload_n C 3 rfl rfl (dq dk_Reader_takeOperand 84 rfl) ?_
            exact ww_lv [4, 5, 2, 1, 0] rfl (t_Reader_takeOperand_B145 C hR hRm hnL v0 v2 x7 x8 0 (ch v0 0) x6 ho_v0 (kc_Reader_0 _ ho_v0) σ4 h)
          · refine ww_iconst C (dq dk_Reader_takeOperand 74 rfl) ic_1 ?_
            refine ww_goto C 128 (dq dk_Reader_takeOperand 75 rfl) (by decide) ?_
            refine ww_istore C [(6, .int 1), (5, .int x8), (4, .int x7), (3, .int x6), (0, .ref (ad k v0)), (2, .int v2)] hnL (lt_ rfl) rfl (dq dk_Reader_takeOperand 77 rfl) ?_
            refine ww_aload_n C 4 rfl rfl (dq dk_Reader_takeOperand 78 rfl) ?_
            refine ww_getr C ko_Reader 0 ho_v0 (lt_ rfl) g_1_122 rfl rfl (dq dk_Reader_takeOperand 79 rfl) ?_
            refine ww_iload C 0 rfl (dq dk_Reader_takeOperand 80 rfl) ?_
            refine ww_if_eq C 144 (dq dk_Reader_takeOperand 81 rfl) (by decide) (ifn (by decide) h) (fun h => by cases h) (fun h => ?_)
            refine ww_bipush C (dq dk_Reader_takeOperand 82 rfl) bp_8 ?_
            refine ww_goto C 145 (dq dk_Reader_takeOperand 83 rfl) (by decide) ?_
            exact ww_lv [4, 5, 2, 1, 0] rfl (t_Reader_takeOperand_B145 C hR hRm hnL v0 v2 x7 x8 1 (ch v0 0) 8 ho_v0 (kc_Reader_0 _ ho_v0) σ4 h)
  · exact ww_vret C hR (dq dk_Reader_takeOperand 33 rfl) h
set_option maxHeartbeats 4000000 in
set_option maxRecDepth 100000 in
theorem c_Reader_takeOperand (v0 : Nat) (ho_v0 : kd v0 = 3) : MV y_Reader_takeOperand rm_Reader_takeOperand prog_9_method_12_code 7 (fun a => [.ref (a v0)]) (Reader_takeOperand v0) := by
  refine mv_of (by decide) (fun _ => le_ rfl) ?_
  intro k res σ C hR hRm hnL h
  unfold Reader_takeOperand at h
  show WW k 0 [(0, .ref (ad k v0))] [] σ
  refine ww_aload_n C 0 rfl rfl (dq dk_Reader_takeOperand 0 rfl) ?_
  refine ww_cVi (st := []) C (c_Reader_take v0 ho_v0) cw_Reader_take ho_v0 (lt_ rfl) rfl g_3_0 hRm ⟨⟨rfl, rfl⟩, le_ rfl, le_ rfl⟩ rfl rfl rfl (le_ rfl) (dq dk_Reader_takeOperand 1 rfl) h (fun x2 σ1 h => ?_)
  refine ww_istore_n C [(1, .int x2), (0, .ref (ad k v0))] rfl hnL (lt_ rfl) rfl (dq dk_Reader_takeOperand 2 rfl) ?_
  refine ww_iload_n C 0 rfl rfl (dq dk_Reader_takeOperand 3 rfl) ?_
  refine ww_bipush C (dq dk_Reader_takeOperand 4 rfl) bp_6 ?_
  refine ww_ishr C (dq dk_Reader_takeOperand 5 rfl) ?_
  refine ww_nmi h (fun x3 h => ?_)
  refine ww_istore_n C [(2, .int x3), (1, .int x2), (0, .ref (ad k v0))] rfl hnL (lt_ rfl) rfl (dq dk_Reader_takeOperand 6 rfl) ?_
  refine ww_aload_n C 2 rfl rfl (dq dk_Reader_takeOperand 7 rfl) ?_
  refine ww_iload_n C 1 rfl rfl (dq dk_Reader_takeOperand 8 rfl) ?_
  refine ww_iconst C (dq dk_Reader_takeOperand 9 rfl) ic_3 ?_
  refine ww_ishr C (dq dk_Reader_takeOperand 10 rfl) ?_
  refine ww_bipush C (dq dk_Reader_takeOperand 11 rfl) bp_7 ?_
  refine ww_iand C (dq dk_Reader_takeOperand 12 rfl) ?_
  refine ww_puti C ko_Reader 8 ho_v0 (lt_ rfl) g_1_133 rfl rfl rfl rfl (dq dk_Reader_takeOperand 13 rfl) h (fun σ4 h => ?_)
  refine ww_aload_n C 2 rfl rfl (dq dk_Reader_takeOperand 14 rfl) ?_
  refine ww_iload_n C 1 rfl rfl (dq dk_Reader_takeOperand 15 rfl) ?_
  refine ww_bipush C (dq dk_Reader_takeOperand 16 rfl) bp_7 ?_
  refine ww_iand C (dq dk_Reader_takeOperand 17 rfl) ?_
  refine ww_puti C ko_Reader 9 ho_v0 (lt_ rfl) g_1_134 rfl rfl rfl rfl (dq dk_Reader_takeOperand 18 rfl) h (fun σ5 h => ?_)
  refine ww_aload_n C 2 rfl rfl (dq dk_Reader_takeOperand 19 rfl) ?_
  refine ww_iload_n C 0 rfl rfl (dq dk_Reader_takeOperand 20 rfl) ?_
  refine ww_iconst C (dq dk_Reader_takeOperand 21 rfl) ic_3 ?_
  refine ww_icmp_ne C 38 (dq dk_Reader_takeOperand 22 rfl) (by decide) h (fun h => ?_) (fun h => ?_)
  · refine ww_iconst C (dq dk_Reader_takeOperand 25 rfl) ic_0 ?_
    exact ww_lv [2, 0] rfl (t_Reader_takeOperand_B39 C hR hRm hnL v0 x3 v0 0 ho_v0 ho_v0 σ5 h)
  · refine ww_iconst C (dq dk_Reader_takeOperand 23 rfl) ic_1 ?_
    refine ww_goto C 39 (dq dk_Reader_takeOperand 24 rfl) (by decide) ?_
    exact ww_lv [2, 0] rfl (t_Reader_takeOperand_B39 C hR hRm hnL v0 x3 v0 1 ho_v0 ho_v0 σ5 h)
