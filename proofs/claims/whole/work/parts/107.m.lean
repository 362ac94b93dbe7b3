abbrev y_Mo_keeps : MethodName := ⟨"BundleHouseModel", "keeps", "([II[I)Z"⟩
def dl_Mo_keeps : List (Nat × Instr × Nat) := [(0, .iload_n 2, 1), (1, .bipush 16, 2), (3, .if_icmp .lt 17, 3), (6, .iload_n 2, 1), (7, .sipush 1024, 3), (10, .if_icmp .gt 10, 3), (13, .iload_n 2, 1), (14, .bipush 16, 2), (16, .irem, 1), (17, .ifCond .eq 10, 3), (20, .aload_n 0, 1), (21, .iconst 1, 1), (22, .iload_n 2, 1), (23, .invokevirtual 184, 3), (26, .ireturn, 1), (27, .iconst 0, 1), (28, .istore 4, 2), (30, .iload 4, 2), (32, .iload_n 2, 1), (33, .if_icmp .ge 14, 3), (36, .aload_n 3, 1), (37, .iload 4, 2), (39, .iconst 0, 1), (40, .iastore, 1), (41, .iinc 4 1, 3), (44, .goto (-14), 3), (47, .iconst 0, 1), (48, .istore 4, 2), (50, .iload 4, 2), (52, .iload_n 2, 1), (53, .if_icmp .ge 254, 3), (56, .iload 4, 2), (58, .istore 5, 2), (60, .iconst (-1), 1), (61, .istore 6, 2), (63, .iload 5, 2), (65, .iload 4, 2), (67, .bipush 16, 2), (69, .iadd, 1), (70, .if_icmp .ge 231, 3), (73, .aload_n 0, 1), (74, .aload_n 1, 1), (75, .iload_n 2, 1), (76, .iload 5, 2), (78, .invokevirtual 187, 3), (81, .istore 7, 2), (83, .iload 7, 2), (85, .ifCond .eq 12, 3), (88, .aload_n 0, 1), (89, .getfield 144, 3), (92, .bipush 23, 2), (94, .if_icmp .ne 11, 3), (97, .aload_n 0, 1), (98, .iconst 2, 1), (99, .iload 5, 2), (101, .invokevirtual 184, 3), (104, .ireturn, 1), (105, .iload 5, 2), (107, .iload 7, 2), (109, .iadd, 1), (110, .iload 4, 2), (112, .bipush 16, 2), (114, .iadd, 1), (115, .if_icmp .le 11, 3), (118, .aload_n 0, 1), (119, .iconst 3, 1), (120, .iload 5, 2), (122, .invokevirtual 184, 3), (125, .ireturn, 1), (126, .aload_n 0, 1), (127, .getfield 144, 3), (130, .bipush 27, 2), (132, .if_icmp .eq 12, 3), (135, .aload_n 0, 1), (136, .getfield 144, 3), (139, .bipush 28, 2), (141, .if_icmp .ne 7, 3), (144, .iconst 1, 1), (145, .goto 4, 3), (148, .iconst 0, 1), (149, .istore 8, 2), (151, .iload 8, 2), (153, .ifCond .eq 60, 3), (156, .iload 6, 2), (158, .ifCond .lt 55, 3), (161, .iload 5, 2), (163, .iload 6, 2), (165, .isub, 1), (166, .iconst 3, 1), (167, .if_icmp .ne 46, 3), (170, .aload_n 1, 1), (171, .iload 6, 2), (173, .iaload, 1), (174, .sipush 131, 3), (177, .if_icmp .ne 36, 3), (180, .aload_n 1, 1), (181, .iload 6, 2), (183, .iconst 1, 1), (184, .iadd, 1), (185, .iaload, 1), (186, .sipush 224, 3), (189, .aload_n 0, 1), (190, .getfield 153, 3), (193, .iadd, 1), (194, .if_icmp .ne 19, 3), (197, .aload_n 1, 1), (198, .iload 6, 2), (200, .iconst 2, 1), (201, .iadd, 1), (202, .iaload, 1), (203, .sipush 240, 3), (206, .if_icmp .ne 7, 3), (209, .iconst 1, 1), (210, .goto 4, 3), (213, .iconst 0, 1), (214, .istore 9, 2), (216, .iload 8, 2), (218, .ifCond .eq 16, 3), (221, .iload 9, 2), (223, .ifCond .ne 11, 3), (226, .aload_n 0, 1), (227, .iconst 4, 1), (228, .iload 5, 2), (230, .invokevirtual 184, 3), (233, .ireturn, 1), (234, .aload_n 0, 1), (235, .getfield 144, 3), (238, .bipush 26, 2), (240, .if_icmp .eq 12, 3), (243, .aload_n 0, 1), (244, .getfield 144, 3), (247, .bipush 28, 2), (249, .if_icmp .ne 24, 3), (252, .iload 5, 2), (254, .iload 7, 2), (256, .iadd, 1), (257, .iload 4, 2), (259, .bipush 16, 2), (261, .iadd, 1), (262, .if_icmp .eq 11, 3), (265, .aload_n 0, 1), (266, .iconst 5, 1), (267, .iload 5, 2), (269, .invokevirtual 184, 3), (272, .ireturn, 1), (273, .aload_n 3, 1), (274, .iload 5, 2), (276, .iload 9, 2), (278, .ifCond .eq 7, 3), (281, .iconst 2, 1), (282, .goto 4, 3), (285, .iconst 1, 1), (286, .iastore, 1), (287, .iload 5, 2), (289, .istore 6, 2), (291, .iload 5, 2), (293, .iload 7, 2), (295, .iadd, 1), (296, .istore 5, 2), (298, .goto (-235), 3), (301, .iinc 4 16, 3), (304, .goto (-254), 3), (307, .iconst 0, 1), (308, .istore 4, 2), (310, .iload 4, 2), (312, .iload_n 2, 1), (313, .if_icmp .ge 125, 3), (316, .aload_n 3, 1), (317, .iload 4, 2), (319, .iaload, 1), (320, .ifCond .ne 6, 3), (323, .goto 109, 3), (326, .aload_n 0, 1), (327, .aload_n 1, 1), (328, .iload_n 2, 1), (329, .iload 4, 2), (331, .invokevirtual 187, 3), (334, .istore 5, 2), (336, .aload_n 0, 1), (337, .getfield 144, 3), (340, .bipush 24, 2), (342, .if_icmp .lt 90, 3), (345, .aload_n 0, 1), (346, .getfield 144, 3), (349, .bipush 26, 2), (351, .if_icmp .le 6, 3), (354, .goto 78, 3), (357, .sipush 256, 3), (360, .iload 4, 2), (362, .iadd, 1), (363, .iload 5, 2), (365, .iadd, 1), (366, .aload_n 0, 1), (367, .getfield 160, 3), (370, .iadd, 1), (371, .istore 6, 2), (373, .iload 6, 2), (375, .invokestatic 191, 3), (378, .ifCond .ne 33, 3), (381, .iload 6, 2), (383, .sipush 256, 3), (386, .if_icmp .lt 29, 3), (389, .iload 6, 2), (391, .sipush 256, 3), (394, .iload_n 2, 1), (395, .iadd, 1), (396, .if_icmp .ge 19, 3), (399, .aload_n 3, 1), (400, .iload 6, 2), (402, .sipush 256, 3), (405, .isub, 1), (406, .iaload, 1), (407, .iconst 1, 1), (408, .if_icmp .ne 7, 3), (411, .iconst 1, 1), (412, .goto 4, 3), (415, .iconst 0, 1), (416, .istore 7, 2), (418, .iload 7, 2), (420, .ifCond .ne 12, 3), (423, .aload_n 0, 1), (424, .bipush 6, 2), (426, .iload 4, 2), (428, .invokevirtual 184, 3), (431, .ireturn, 1), (432, .iinc 4 1, 3), (435, .goto (-125), 3), (438, .aload_n 0, 1), (439, .iconst 0, 1), (440, .iconst (-1), 1), (441, .invokevirtual 184, 3), (444, .pop, 1), (445, .iconst 1, 1), (446, .ireturn, 1)]
set_option maxRecDepth 100000 in
theorem dk_Mo_keeps : ∀ q ∈ dl_Mo_keeps, decode prog_14_method_19_code q.1 = .ok q.2 := by decide +kernel
abbrev rm_Mo_keeps : Room := { frames := 7, cells := 0, slots := 0, locals := 157 }
theorem cw_Mo_keeps : CWV y_Mo_keeps prog_14_method_19_code 10 (some .boolean) 3 := ⟨⟨g_7_24, g_1_13, by decide, by decide, by decide +kernel⟩, g_7_23, gs_4_15⟩
set_option maxHeartbeats 4000000 in
set_option maxRecDepth 100000 in
theorem t_Mo_keeps_B416 {k : Cfg} {res : Int32 × St} (C : Cx k prog_14_method_19_code "BundleHouseModel") (hR : RI k .boolean res) (hRm : k.2.2.2.1 = rm_Mo_keeps) (hnL : k.2.2.2.2.2.2.2.2.2.2.2.1 = 10) {K310 : Nat → Nat → Int32 → Nat → Int32 → St → Option (Int32 × St)} (hK310 : ∀ (v0 : Nat) (v1 : Nat) (v2 : Int32) (v3 : Nat) (v4 : Int32) (ho_v0 : kd v0 = 12) (σ : St), K310 v0 v1 v2 v3 v4 σ = some res → WW k 310 [(0, .ref (ad k v0)), (1, .ref (ad k v1)), (2, .int v2), (3, .ref (ad k v3)), (4, .int v4)] [] σ) (v0 : Nat) (v1 : Nat) (v2 : Int32) (v3 : Nat) (v4 : Int32) (t0 : Int32) (ho_v0 : kd v0 = 12) (σ : St) (h : Mo_keeps_B416 K310 v0 v1 v2 v3 v4 t0 σ = some res) : WW k 416 [(0, .ref (ad k v0)), (1, .ref (ad k v1)), (2, .int v2), (3, .ref (ad k v3)), (4, .int v4)] [.int t0] σ := by
  unfold Mo_keeps_B416 at h
  refine ww_istore C [(7, .int t0), (0, .ref (ad k v0)), (1, .ref (ad k v1)), (2, .int v2), (3, .ref (ad k v3)), (4, .int v4)] hnL (lt_ rfl) rfl (dq dk_Mo_keeps 217 rfl) ?_
  refine ww_iload C 0 rfl (dq dk_Mo_keeps 218 rfl) ?_
  refine ww_if_ne C 432 (dq dk_Mo_keeps 219 rfl) (by decide) h (fun h => ?_) (fun h => ?_)
  · refine ww_iinc C 5 (fun z => [(4, .int z), (7, .int t0), (0, .ref (ad k v0)), (1, .ref (ad k v1)), (2, .int v2), (3, .ref (ad k v3))]) rfl ic_1 hnL (lt_ rfl) (fun _ => rfl) (dq dk_Mo_keeps 225 rfl) h (fun x1 h => ?_)
    refine ww_goto C 310 (dq dk_Mo_keeps 226 rfl) (by decide) ?_
    exact ww_lv [2, 3, 4, 5, 0] rfl (hK310 v0 v1 v2 v3 x1 ho_v0 σ h)
  · refine ww_aload_n C 1 rfl rfl (dq dk_Mo_keeps 220 rfl) ?_
    refine ww_bipush C (dq dk_Mo_keeps 221 rfl) bp_6 ?_
    refine ww_iload C 5 rfl (dq dk_Mo_keeps 222 rfl) ?_
    refine ww_cVi (st := []) C (c_Mo_faults v0 ho_v0 6 v4) cw_Mo_faults ho_v0 (lt_ rfl) rfl g_7_25 hRm ⟨⟨rfl, rfl⟩, le_ rfl, le_ rfl⟩ rfl rfl rfl (le_ rfl) (dq dk_Mo_keeps 223 rfl) h (fun x3 σ2 h => ?_)
    exact ww_zret C hR (dq dk_Mo_keeps 224 rfl) h
set_option maxHeartbeats 4000000 in
set_option maxRecDepth 100000 in
theorem t_Mo_keeps_B310 {k : Cfg} {res : Int32 × St} (C : Cx k prog_14_method_19_code "BundleHouseModel") (hR : RI k .boolean res) (hRm : k.2.2.2.1 = rm_Mo_keeps) (hnL : k.2.2.2.2.2.2.2.2.2.2.2.1 = 10) : ∀ (n : Nat) (v0 : Nat) (v1 : Nat) (v2 : Int32) (v3 : Nat) (v4 : Int32) (ho_v0 : kd v0 = 12) (σ : St), Mo_keeps_B310 n v0 v1 v2 v3 v4 σ = some res → WW k 310 [(0, .ref (ad k v0)), (1, .ref (ad k v1)), (2, .int v2), (3, .ref (ad k v3)), (4, .int v4)] [] σ := by
  intro n
  induction n with
  | zero =>
    intro v0 v1 v2 v3 v4 ho_v0 σ h
    have h : (none : Option (Int32 × St)) = some res := h
    cases h
  | succ n ih =>
    intro v0 v1 v2 v3 v4 ho_v0 σ h
    unfold Mo_keeps_B310 at h
    refine ww_iload C 4 rfl (dq dk_Mo_keeps 164 rfl) ?_
    refine ww_iload_n C 2 rfl rfl (dq dk_Mo_keeps 165 rfl) ?_
    refine ww_icmp_ge C 438 (dq dk_Mo_keeps 166 rfl) (by decide) h (fun h => ?_) (fun h => ?_)
    · refine ww_aload_n C 0 rfl rfl (dq dk_Mo_keeps 227 rfl) ?_
      refine ww_iconst C (dq dk_Mo_keeps 228 rfl) ic_0 ?_
      refine ww_iconst C (dq dk_Mo_keeps 229 rfl) ic_m1 ?_
      refine ww_cVi (st := []) C (c_Mo_faults v0 ho_v0 0 (-1)) cw_Mo_faults ho_v0 (lt_ rfl) rfl g_7_25 hRm ⟨⟨rfl, rfl⟩, le_ rfl, le_ rfl⟩ rfl rfl rfl (le_ rfl) (dq dk_Mo_keeps 230 rfl) h (fun x2 σ1 h => ?_)
      refine ww_pop C rfl (dq dk_Mo_keeps 231 rfl) ?_
      refine ww_iconst C (dq dk_Mo_keeps 232 rfl) ic_1 ?_
      exact ww_zretL C hR (dq dk_Mo_keeps 233 rfl) (Or.inr rfl) h
    · refine ww_aload_n C 3 rfl rfl (dq dk_Mo_keeps 167 rfl) ?_
      refine ww_iload C 4 rfl (dq dk_Mo_keeps 168 rfl) ?_
      refine ww_lrld C (dq dk_Mo_keeps 169 rfl) h (fun x3 h => ?_)
      refine ww_if_ne C 326 (dq dk_Mo_keeps 170 rfl) (by decide) h (fun h => ?_) (fun h => ?_)
      · refine ww_aload_n C 0 rfl rfl (dq dk_Mo_keeps 172 rfl) ?_
        refine ww_aload_n C 1 rfl rfl (dq dk_Mo_keeps 173 rfl) ?_
        refine ww_iload_n C 2 rfl rfl (dq dk_Mo_keeps 174 rfl) ?_
        refine ww_iload C 4 rfl (dq dk_Mo_keeps 175 rfl) ?_
        refine ww_cVi (st := []) C (c_Mo_decode v0 ho_v0 v1 v2 v4) cw_Mo_decode ho_v0 (lt_ rfl) rfl g_7_29 hRm ⟨⟨rfl, rfl⟩, le_ rfl, le_ rfl⟩ rfl rfl rfl (le_ rfl) (dq dk_Mo_keeps 176 rfl) h (fun x5 σ4 h => ?_)
        refine ww_istore C [(5, .int x5), (0, .ref (ad k v0)), (1, .ref (ad k v1)), (2, .int v2), (3, .ref (ad k v3)), (4, .int v4)] hnL (lt_ rfl) rfl (dq dk_Mo_keeps 177 rfl) ?_
        refine ww_aload_n C 1 rfl rfl (dq dk_Mo_keeps 178 rfl) ?_
        refine ww_geti C ko_Mo 46 ho_v0 (lt_ rfl) g_6_96 rfl rfl (dq dk_Mo_keeps 179 rfl) ?_
        refine ww_bipush C (dq dk_Mo_keeps 180 rfl) bp_24 ?_
        refine ww_icmp_lt C 432 (dq dk_Mo_keeps 181 rfl) (by decide) h (fun h => ?_) (fun h => ?_)
        · refine ww_iinc C 5 (fun z => [(4, .int z), (5, .int x5), (0, .ref (ad k v0)), (1, .ref (ad k v1)), (2, .int v2), (3, .ref (ad k v3))]) rfl ic_1 hnL (lt_ rfl) (fun _ => rfl) (dq dk_Mo_keeps 225 rfl) h (fun x6 h => ?_)
          refine ww_goto C 310 (dq dk_Mo_keeps 226 rfl) (by decide) ?_
          exact ww_lv [2, 3, 4, 5, 0] rfl (ih v0 v1 v2 v3 x6 ho_v0 σ4 h)
        · refine ww_aload_n C 1 rfl rfl (dq dk_Mo_keeps 182 rfl) ?_
          refine ww_geti C ko_Mo 46 ho_v0 (lt_ rfl) g_6_96 rfl rfl (dq dk_Mo_keeps 183 rfl) ?_
          refine ww_bipush C (dq dk_Mo_keeps 184 rfl) bp_26 ?_
          refine ww_icmp_le C 357 (dq dk_Mo_keeps 185 rfl) (by decide) h (fun h => ?_) (fun h => ?_)
          · refine ww_sipush C (dq dk_Mo_keeps 187 rfl) sp_256 ?_
            refine ww_iload C 5 rfl (dq dk_Mo_keeps 188 rfl) ?_
            refine ww_iadd C (dq dk_Mo_keeps 189 rfl) ?_
            refine ww_iload C 0 rfl (dq dk_Mo_keeps 190 rfl) ?_
            refine ww_iadd C (dq dk_Mo_keeps 191 rfl) ?_
            refine ww_aload_n C 1 rfl rfl (dq dk_Mo_keeps 192 rfl) ?_
            refine ww_geti C ko_Mo 51 ho_v0 (lt_ rfl) g_6_101 rfl rfl (dq dk_Mo_keeps 193 rfl) ?_
            refine ww_iadd C (dq dk_Mo_keeps 194 rfl) ?_
            refine ww_nmi h (fun x7 h => ?_)
            refine ww_istore C [(6, .int x7), (5, .int x5), (0, .ref (ad k v0)), (1, .ref (ad k v1)), (2, .int v2), (3, .ref (ad k v3)), (4, .int v4)] hnL (lt_ rfl) rfl (dq dk_Mo_keeps 195 rfl) ?_
            refine ww_iload C 0 rfl (dq dk_Mo_keeps 196 rfl) ?_
            refine ww_cSi (st := []) C (c_Mo_isService x7) cw_Mo_isService g_7_73 hRm ⟨⟨rfl, rfl⟩, le_ rfl, le_ rfl⟩ rfl rfl rfl (le_ rfl) (dq dk_Mo_keeps 197 rfl) h (fun x9 σ8 h => ?_)
            refine ww_if_ne C 411 (dq dk_Mo_keeps 198 rfl) (by decide) h (fun h => ?_) (fun h => ?_)
            · refine ww_iconst C (dq dk_Mo_keeps 214 rfl) ic_1 ?_
              refine ww_goto C 416 (dq dk_Mo_keeps 215 rfl) (by decide) ?_
              exact ww_lv [2, 3, 4, 5, 6] rfl (t_Mo_keeps_B416 C hR hRm hnL ih v0 v1 v2 v3 v4 1 ho_v0 σ8 h)
            · refine ww_iload C 0 rfl (dq dk_Mo_keeps 199 rfl) ?_
              refine ww_sipush C (dq dk_Mo_keeps 200 rfl) sp_256 ?_
              refine ww_icmp_lt C 415 (dq dk_Mo_keeps 201 rfl) (by decide) h (fun h => ?_) (fun h => ?_)
              · refine ww_iconst C (dq dk_Mo_keeps 216 rfl) ic_0 ?_
                exact ww_lv [2, 3, 4, 5, 6] rfl (t_Mo_keeps_B416 C hR hRm hnL ih v0 v1 v2 v3 v4 0 ho_v0 σ8 h)
              · refine ww_iload C 0 rfl (dq dk_Mo_keeps 202 rfl) ?_
                refine ww_sipush C (dq dk_Mo_keeps 203 rfl) sp_256 ?_
                refine ww_iload_n C 4 rfl rfl (dq dk_Mo_keeps 204 rfl) ?_
                refine ww_iadd C (dq dk_Mo_keeps 205 rfl) ?_
                refine ww_icmp_ge C 415 (dq dk_Mo_keeps 206 rfl) (by decide) h (fun h => ?_) (fun h => ?_)
                · refine ww_iconst C (dq dk_Mo_keeps 216 rfl) ic_0 ?_
                  exact ww_lv [2, 3, 4, 5, 6] rfl (t_Mo_keeps_B416 C hR hRm hnL ih v0 v1 v2 v3 v4 0 ho_v0 σ8 h)
                · refine ww_aload_n C 5 rfl rfl (dq dk_Mo_keeps 207 rfl) ?_
                  refine ww_iload C 0 rfl (dq dk_Mo_keeps 208 rfl) ?_
                  refine ww_sipush C (dq dk_Mo_keeps 209 rfl) sp_256 ?_
                  refine ww_isub C (dq dk_Mo_keeps 210 rfl) ?_
                  refine ww_lrld C (dq dk_Mo_keeps 211 rfl) h (fun x10 h => ?_)
                  refine ww_iconst C (dq dk_Mo_keeps 212 rfl) ic_1 ?_
                  refine ww_icmp_ne C 415 (dq dk_Mo_keeps 213 rfl) (by decide) h (fun h => ?_) (fun h => ?_)
                  · refine ww_iconst C (dq dk_Mo_keeps 216 rfl) ic_0 ?_
                    exact ww_lv [2, 3, 4, 5, 6] rfl (t_Mo_keeps_B416 C hR hRm hnL ih v0 v1 v2 v3 v4 0 ho_v0 σ8 h)
                  · refine ww_iconst C (dq dk_Mo_keeps 214 rfl) ic_1 ?_
                    refine ww_goto C 416 (dq dk_Mo_keeps 215 rfl) (by decide) ?_
                    exact ww_lv [2, 3, 4, 5, 6] rfl (t_Mo_keeps_B416 C hR hRm hnL ih v0 v1 v2 v3 v4 1 ho_v0 σ8 h)
          · refine ww_goto C 432 (dq dk_Mo_keeps 186 rfl) (by decide) ?_
            refine ww_iinc C 5 (fun z => [(4, .int z), (5, .int x5), (0, .ref (ad k v0)), (1, .ref (ad k v1)), (2, .int v2), (3, .ref (ad k v3))]) rfl ic_1 hnL (lt_ rfl) (fun _ => rfl) (dq dk_Mo_keeps 225 rfl) h (fun x11 h => ?_)
            refine ww_goto C 310 (dq dk_Mo_keeps 226 rfl) (by decide) ?_
            exact ww_lv [2, 3, 4, 5, 0] rfl (ih v0 v1 v2 v3 x11 ho_v0 σ4 h)
      · refine ww_goto C 432 (dq dk_Mo_keeps 171 rfl) (by decide) ?_
        refine ww_iinc C 4 (fun z => [(4, .int z), (0, .ref (ad k v0)), (1, .ref (ad k v1)), (2, .int v2), (3, .ref (ad k v3))]) rfl ic_1 hnL (lt_ rfl) (fun _ => rfl) (dq dk_Mo_keeps 225 rfl) h (fun x12 h => ?_)
        refine ww_goto C 310 (dq dk_Mo_keeps 226 rfl) (by decide) ?_
        exact ww_lv [1, 2, 3, 4, 0] rfl (ih v0 v1 v2 v3 x12 ho_v0 σ h)
set_option maxHeartbeats 4000000 in
set_option maxRecDepth 100000 in
theorem t_Mo_keeps_B252 {k : Cfg} {res : Int32 × St} (C : Cx k prog_14_method_19_code "BundleHouseModel") (hR : RI k .boolean res) (hRm : k.2.2.2.1 = rm_Mo_keeps) (hnL : k.2.2.2.2.2.2.2.2.2.2.2.1 = 10) {K50 : Nat → Nat → Int32 → Nat → Int32 → St → Option (Int32 × St)} (hK50 : ∀ (v0 : Nat) (v1 : Nat) (v2 : Int32) (v3 : Nat) (v4 : Int32) (ho_v0 : kd v0 = 12) (σ : St), K50 v0 v1 v2 v3 v4 σ = some res → WW k 50 [(0, .ref (ad k v0)), (1, .ref (ad k v1)), (2, .int v2), (3, .ref (ad k v3)), (4, .int v4)] [] σ) {K63 : Nat → Nat → Int32 → Nat → Int32 → Int32 → Int32 → St → Option (Int32 × St)} (hK63 : ∀ (v0 : Nat) (v1 : Nat) (v2 : Int32) (v3 : Nat) (v4 : Int32) (v5 : Int32) (v6 : Int32) (ho_v0 : kd v0 = 12) (σ : St), K63 v0 v1 v2 v3 v4 v5 v6 σ = some res → WW k 63 [(0, .ref (ad k v0)), (1, .ref (ad k v1)), (2, .int v2), (3, .ref (ad k v3)), (4, .int v4), (5, .int v5), (6, .int v6)] [] σ) (v0 : Nat) (v1 : Nat) (v2 : Int32) (v3 : Nat) (v4 : Int32) (v5 : Int32) (v7 : Int32) (v9 : Int32) (ho_v0 : kd v0 = 12) (σ : St) (h : Mo_keeps_B252 K50 K63 v0 v1 v2 v3 v4 v5 v7 v9 σ = some res) : WW k 252 [(0, .ref (ad k v0)), (1, .ref (ad k v1)), (2, .int v2), (3, .ref (ad k v3)), (4, .int v4), (5, .int v5), (7, .int v7), (9, .int v9)] [] σ := by
  unfold Mo_keeps_B252 at h
  refine ww_iload C 5 rfl (dq dk_Mo_keeps 133 rfl) ?_
  refine ww_iload C 6 rfl (dq dk_Mo_keeps 134 rfl) ?_
  refine ww_iadd C (dq dk_Mo_keeps 135 rfl) ?_
  refine ww_iload C 4 rfl (dq dk_Mo_keeps 136 rfl) ?_
  refine ww_bipush C (dq dk_Mo_keeps 137 rfl) bp_16 ?_
  refine ww_iadd C (dq dk_Mo_keeps 138 rfl) ?_
  refine ww_icmp_eq C 273 (dq dk_Mo_keeps 139 rfl) (by decide) h (fun h => ?_) (fun h => ?_)
  · refine ww_aload_n C 3 rfl rfl (dq dk_Mo_keeps 145 rfl) ?_
    refine ww_iload C 5 rfl (dq dk_Mo_keeps 146 rfl) ?_
    refine ww_iload C 7 rfl (dq dk_Mo_keeps 147 rfl) ?_
    refine ww_if_eq C 285 (dq dk_Mo_keeps 148 rfl) (by decide) h (fun h => ?_) (fun h => ?_)
    · refine ww_iconst C (dq dk_Mo_keeps 151 rfl) ic_1 ?_
      refine ww_srst C (dq dk_Mo_keeps 152 rfl) h (fun σ1 h => ?_)
      refine ww_iload C 5 rfl (dq dk_Mo_keeps 153 rfl) ?_
      refine ww_istore C [(6, .int v5), (0, .ref (ad k v0)), (1, .ref (ad k v1)), (2, .int v2), (3, .ref (ad k v3)), (4, .int v4), (5, .int v5), (7, .int v7), (9, .int v9)] hnL (lt_ rfl) rfl (dq dk_Mo_keeps 154 rfl) ?_
      refine ww_iload C 6 rfl (dq dk_Mo_keeps 155 rfl) ?_
      refine ww_iload C 7 rfl (dq dk_Mo_keeps 156 rfl) ?_
      refine ww_iadd C (dq dk_Mo_keeps 157 rfl) ?_
      refine ww_nmi h (fun x2 h => ?_)
      refine ww_istore C [(5, .int x2), (6, .int v5), (0, .ref (ad k v0)), (1, .ref (ad k v1)), (2, .int v2), (3, .ref (ad k v3)), (4, .int v4), (7, .int v7), (9, .int v9)] hnL (lt_ rfl) rfl (dq dk_Mo_keeps 158 rfl) ?_
      refine ww_goto C 63 (dq dk_Mo_keeps 159 rfl) (by decide) ?_
      exact ww_lv [2, 3, 4, 5, 6, 0, 1] rfl (hK63 v0 v1 v2 v3 v4 x2 v5 ho_v0 σ1 h)
    · refine ww_iconst C (dq dk_Mo_keeps 149 rfl) ic_2 ?_
      refine ww_goto C 286 (dq dk_Mo_keeps 150 rfl) (by decide) ?_
      refine ww_srst C (dq dk_Mo_keeps 152 rfl) h (fun σ3 h => ?_)
      refine ww_iload C 5 rfl (dq dk_Mo_keeps 153 rfl) ?_
      refine ww_istore C [(6, .int v5), (0, .ref (ad k v0)), (1, .ref (ad k v1)), (2, .int v2), (3, .ref (ad k v3)), (4, .int v4), (5, .int v5), (7, .int v7), (9, .int v9)] hnL (lt_ rfl) rfl (dq dk_Mo_keeps 154 rfl) ?_
      refine ww_iload C 6 rfl (dq dk_Mo_keeps 155 rfl) ?_
      refine ww_iload C 7 rfl (dq dk_Mo_keeps 156 rfl) ?_
      refine ww_iadd C (dq dk_Mo_keeps 157 rfl) ?_
      refine ww_nmi h (fun x4 h => ?_)
      refine ww_istore C [(5, .int x4), (6, .int v5), (0, .ref (ad k v0)), (1, .ref (ad k v1)), (2, .int v2), (3, .ref (ad k v3)), (4, .int v4), (7, .int v7), (9, .int v9)] hnL (lt_ rfl) rfl (dq dk_Mo_keeps 158 rfl) ?_
      refine ww_goto C 63 (dq dk_Mo_keeps 159 rfl) (by decide) ?_
      exact ww_lv [2, 3, 4, 5, 6, 0, 1] rfl (hK63 v0 v1 v2 v3 v4 x4 v5 ho_v0 σ3 h)
  · refine ww_aload_n C 0 rfl rfl (dq dk_Mo_keeps 140 rfl) ?_
    refine ww_iconst C (dq dk_Mo_keeps 141 rfl) ic_5 ?_
    refine ww_iload C 5 rfl (dq dk_Mo_keeps 142 rfl) ?_
    refine ww_cVi (st := []) C (c_Mo_faults v0 ho_v0 5 v5) cw_Mo_faults ho_v0 (lt_ rfl) rfl g_7_25 hRm ⟨⟨rfl, rfl⟩, le_ rfl, le_ rfl⟩ rfl rfl rfl (le_ rfl) (dq dk_Mo_keeps 143 rfl) h (fun x6 σ5 h => ?_)
    exact ww_zret C hR (dq dk_Mo_keeps 144 rfl) h
set_option maxHeartbeats 4000000 in
set_option maxRecDepth 100000 in
theorem t_Mo_keeps_B234 {k : Cfg} {res : Int32 × St} (C : Cx k prog_14_method_19_code "BundleHouseModel") (hR : RI k .boolean res) (hRm : k.2.2.2.1 = rm_Mo_keeps) (hnL : k.2.2.2.2.2.2.2.2.2.2.2.1 = 10) {K50 : Nat → Nat → Int32 → Nat → Int32 → St → Option (Int32 × St)} (hK50 : ∀ (v0 : Nat) (v1 : Nat) (v2 : Int32) (v3 : Nat) (v4 : Int32) (ho_v0 : kd v0 = 12) (σ : St), K50 v0 v1 v2 v3 v4 σ = some res → WW k 50 [(0, .ref (ad k v0)), (1, .ref (ad k v1)), (2, .int v2), (3, .ref (ad k v3)), (4, .int v4)] [] σ) {K63 : Nat → Nat → Int32 → Nat → Int32 → Int32 → Int32 → St → Option (Int32 × St)} (hK63 : ∀ (v0 : Nat) (v1 : Nat) (v2 : Int32) (v3 : Nat) (v4 : Int32) (v5 : Int32) (v6 : Int32) (ho_v0 : kd v0 = 12) (σ : St), K63 v0 v1 v2 v3 v4 v5 v6 σ = some res → WW k 63 [(0, .ref (ad k v0)), (1, .ref (ad k v1)), (2, .int v2), (3, .ref (ad k v3)), (4, .int v4), (5, .int v5), (6, .int v6)] [] σ) (v0 : Nat) (v1 : Nat) (v2 : Int32) (v3 : Nat) (v4 : Int32) (v5 : Int32) (v7 : Int32) (v9 : Int32) (ho_v0 : kd v0 = 12) (σ : St) (h : Mo_keeps_B234 K50 K63 v0 v1 v2 v3 v4 v5 v7 v9 σ = some res) : WW k 234 [(0, .ref (ad k v0)), (1, .ref (ad k v1)), (2, .int v2), (3, .ref (ad k v3)), (4, .int v4), (5, .int v5), (7, .int v7), (9, .int v9)] [] σ := by
  unfold Mo_keeps_B234 at h
  refine ww_aload_n C 0 rfl rfl (dq dk_Mo_keeps 125 rfl) ?_
  refine ww_geti C ko_Mo 46 ho_v0 (lt_ rfl) g_6_96 rfl rfl (dq dk_Mo_keeps 126 rfl) ?_
  refine ww_bipush C (dq dk_Mo_keeps 127 rfl) bp_26 ?_
  refine ww_icmp_eq C 252 (dq dk_Mo_keeps 128 rfl) (by decide) h (fun h => ?_) (fun h => ?_)
  · exact ww_lv [0, 1, 2, 3, 4, 5, 6, 7] rfl (t_Mo_keeps_B252 C hR hRm hnL hK50 hK63 v0 v1 v2 v3 v4 v5 v7 v9 ho_v0 σ h)
  · refine ww_aload_n C 0 rfl rfl (dq dk_Mo_keeps 129 rfl) ?_
    refine ww_geti C ko_Mo 46 ho_v0 (lt_ rfl) g_6_96 rfl rfl (dq dk_Mo_keeps 130 rfl) ?_
    refine ww_bipush C (dq dk_Mo_keeps 131 rfl) bp_28 ?_
    refine ww_icmp_ne C 273 (dq dk_Mo_keeps 132 rfl) (by decide) h (fun h => ?_) (fun h => ?_)
    · refine ww_aload_n C 3 rfl rfl (dq dk_Mo_keeps 145 rfl) ?_
      refine ww_iload C 5 rfl (dq dk_Mo_keeps 146 rfl) ?_
      refine ww_iload C 7 rfl (dq dk_Mo_keeps 147 rfl) ?_
      refine ww_if_eq C 285 (dq dk_Mo_keeps 148 rfl) (by decide) h (fun h => ?_) (fun h => ?_)
      · refine ww_iconst C (dq dk_Mo_keeps 151 rfl) ic_1 ?_
        refine ww_srst C (dq dk_Mo_keeps 152 rfl) h (fun σ1 h => ?_)
        refine ww_iload C 5 rfl (dq dk_Mo_keeps 153 rfl) ?_
        refine ww_istore C [(6, .int v5), (0, .ref (ad k v0)), (1, .ref (ad k v1)), (2, .int v2), (3, .ref (ad k v3)), (4, .int v4), (5, .int v5), (7, .int v7), (9, .int v9)] hnL (lt_ rfl) rfl (dq dk_Mo_keeps 154 rfl) ?_
        refine ww_iload C 6 rfl (dq dk_Mo_keeps 155 rfl) ?_
        refine ww_iload C 7 rfl (dq dk_Mo_keeps 156 rfl) ?_
        refine ww_iadd C (dq dk_Mo_keeps 157 rfl) ?_
        refine ww_nmi h (fun x2 h => ?_)
        refine ww_istore C [(5, .int x2), (6, .int v5), (0, .ref (ad k v0)), (1, .ref (ad k v1)), (2, .int v2), (3, .ref (ad k v3)), (4, .int v4), (7, .int v7), (9, .int v9)] hnL (lt_ rfl) rfl (dq dk_Mo_keeps 158 rfl) ?_
        refine ww_goto C 63 (dq dk_Mo_keeps 159 rfl) (by decide) ?_
        exact ww_lv [2, 3, 4, 5, 6, 0, 1] rfl (hK63 v0 v1 v2 v3 v4 x2 v5 ho_v0 σ1 h)
      · refine ww_iconst C (dq dk_Mo_keeps 149 rfl) ic_2 ?_
        refine ww_goto C 286 (dq dk_Mo_keeps 150 rfl) (by decide) ?_
        refine ww_srst C (dq dk_Mo_keeps 152 rfl) h (fun σ3 h => ?_)
        refine ww_iload C 5 rfl (dq dk_Mo_keeps 153 rfl) ?_
        refine ww_istore C [(6, .int v5), (0, .ref (ad k v0)), (1, .ref (ad k v1)), (2, .int v2), (3, .ref (ad k v3)), (4, .int v4), (5, .int v5), (7, .int v7), (9, .int v9)] hnL (lt_ rfl) rfl (dq dk_Mo_keeps 154 rfl) ?_
        refine ww_iload C 6 rfl (dq dk_Mo_keeps 155 rfl) ?_
        refine ww_iload C 7 rfl (dq dk_Mo_keeps 156 rfl) ?_
        refine ww_iadd C (dq dk_Mo_keeps 157 rfl) ?_
        refine ww_nmi h (fun x4 h => ?_)
        refine ww_istore C [(5, .int x4), (6, .int v5), (0, .ref (ad k v0)), (1, .ref (ad k v1)), (2, .int v2), (3, .ref (ad k v3)), (4, .int v4), (7, .int v7), (9, .int v9)] hnL (lt_ rfl) rfl (dq dk_Mo_keeps 158 rfl) ?_
        refine ww_goto C 63 (dq dk_Mo_keeps 159 rfl) (by decide) ?_
        exact ww_lv [2, 3, 4, 5, 6, 0, 1] rfl (hK63 v0 v1 v2 v3 v4 x4 v5 ho_v0 σ3 h)
    · exact ww_lv [0, 1, 2, 3, 4, 5, 6, 7] rfl (t_Mo_keeps_B252 C hR hRm hnL hK50 hK63 v0 v1 v2 v3 v4 v5 v7 v9 ho_v0 σ h)
set_option maxHeartbeats 4000000 in
set_option maxRecDepth 100000 in
theorem t_Mo_keeps_B214 {k : Cfg} {res : Int32 × St} (C : Cx k prog_14_method_19_code "BundleHouseModel") (hR : RI k .boolean res) (hRm : k.2.2.2.1 = rm_Mo_keeps) (hnL : k.2.2.2.2.2.2.2.2.2.2.2.1 = 10) {K50 : Nat → Nat → Int32 → Nat → Int32 → St → Option (Int32 × St)} (hK50 : ∀ (v0 : Nat) (v1 : Nat) (v2 : Int32) (v3 : Nat) (v4 : Int32) (ho_v0 : kd v0 = 12) (σ : St), K50 v0 v1 v2 v3 v4 σ = some res → WW k 50 [(0, .ref (ad k v0)), (1, .ref (ad k v1)), (2, .int v2), (3, .ref (ad k v3)), (4, .int v4)] [] σ) {K63 : Nat → Nat → Int32 → Nat → Int32 → Int32 → Int32 → St → Option (Int32 × St)} (hK63 : ∀ (v0 : Nat) (v1 : Nat) (v2 : Int32) (v3 : Nat) (v4 : Int32) (v5 : Int32) (v6 : Int32) (ho_v0 : kd v0 = 12) (σ : St), K63 v0 v1 v2 v3 v4 v5 v6 σ = some res → WW k 63 [(0, .ref (ad k v0)), (1, .ref (ad k v1)), (2, .int v2), (3, .ref (ad k v3)), (4, .int v4), (5, .int v5), (6, .int v6)] [] σ) (v0 : Nat) (v1 : Nat) (v2 : Int32) (v3 : Nat) (v4 : Int32) (v5 : Int32) (v7 : Int32) (v8 : Int32) (t0 : Int32) (ho_v0 : kd v0 = 12) (σ : St) (h : Mo_keeps_B214 K50 K63 v0 v1 v2 v3 v4 v5 v7 v8 t0 σ = some res) : WW k 214 [(0, .ref (ad k v0)), (1, .ref (ad k v1)), (2, .int v2), (3, .ref (ad k v3)), (4, .int v4), (5, .int v5), (7, .int v7), (8, .int v8)] [.int t0] σ := by
  unfold Mo_keeps_B214 at h
  refine ww_istore C [(9, .int t0), (0, .ref (ad k v0)), (1, .ref (ad k v1)), (2, .int v2), (3, .ref (ad k v3)), (4, .int v4), (5, .int v5), (7, .int v7), (8, .int v8)] hnL (lt_ rfl) rfl (dq dk_Mo_keeps 115 rfl) ?_
  refine ww_iload C 8 rfl (dq dk_Mo_keeps 116 rfl) ?_
  refine ww_if_eq C 234 (dq dk_Mo_keeps 117 rfl) (by decide) h (fun h => ?_) (fun h => ?_)
  · exact ww_lv [1, 2, 3, 4, 5, 6, 7, 0] rfl (t_Mo_keeps_B234 C hR hRm hnL hK50 hK63 v0 v1 v2 v3 v4 v5 v7 t0 ho_v0 σ h)
  · refine ww_iload C 0 rfl (dq dk_Mo_keeps 118 rfl) ?_
    refine ww_if_ne C 234 (dq dk_Mo_keeps 119 rfl) (by decide) h (fun h => ?_) (fun h => ?_)
    · exact ww_lv [1, 2, 3, 4, 5, 6, 7, 0] rfl (t_Mo_keeps_B234 C hR hRm hnL hK50 hK63 v0 v1 v2 v3 v4 v5 v7 t0 ho_v0 σ h)
    · refine ww_aload_n C 1 rfl rfl (dq dk_Mo_keeps 120 rfl) ?_
      refine ww_iconst C (dq dk_Mo_keeps 121 rfl) ic_4 ?_
      refine ww_iload C 6 rfl (dq dk_Mo_keeps 122 rfl) ?_
      refine ww_cVi (st := []) C (c_Mo_faults v0 ho_v0 4 v5) cw_Mo_faults ho_v0 (lt_ rfl) rfl g_7_25 hRm ⟨⟨rfl, rfl⟩, le_ rfl, le_ rfl⟩ rfl rfl rfl (le_ rfl) (dq dk_Mo_keeps 123 rfl) h (fun x2 σ1 h => ?_)
      exact ww_zret C hR (dq dk_Mo_keeps 124 rfl) h
set_option maxHeartbeats 4000000 in
set_option maxRecDepth 100000 in
theorem t_Mo_keeps_B149 {k : Cfg} {res : Int32 × St} (C : Cx k prog_14_method_19_code "BundleHouseModel") (hR : RI k .boolean res) (hRm : k.2.2.2.1 = rm_Mo_keeps) (hnL : k.2.2.2.2.2.2.2.2.2.2.2.1 = 10) {K50 : Nat → Nat → Int32 → Nat → Int32 → St → Option (Int32 × St)} (hK50 : ∀ (v0 : Nat) (v1 : Nat) (v2 : Int32) (v3 : Nat) (v4 : Int32) (ho_v0 : kd v0 = 12) (σ : St), K50 v0 v1 v2 v3 v4 σ = some res → WW k 50 [(0, .ref (ad k v0)), (1, .ref (ad k v1)), (2, .int v2), (3, .ref (ad k v3)), (4, .int v4)] [] σ) {K63 : Nat → Nat → Int32 → Nat → Int32 → Int32 → Int32 → St → Option (Int32 × St)} (hK63 : ∀ (v0 : Nat) (v1 : Nat) (v2 : Int32) (v3 : Nat) (v4 : Int32) (v5 : Int32) (v6 : Int32) (ho_v0 : kd v0 = 12) (σ : St), K63 v0 v1 v2 v3 v4 v5 v6 σ = some res → WW k 63 [(0, .ref (ad k v0)), (1, .ref (ad k v1)), (2, .int v2), (3, .ref (ad k v3)), (4, .int v4), (5, .int v5), (6, .int v6)] [] σ) (v0 : Nat) (v1 : Nat) (v2 : Int32) (v3 : Nat) (v4 : Int32) (v5 : Int32) (v6 : Int32) (v7 : Int32) (t0 : Int32) (ho_v0 : kd v0 = 12) (σ : St) (h : Mo_keeps_B149 K50 K63 v0 v1 v2 v3 v4 v5 v6 v7 t0 σ = some res) : WW k 149 [(0, .ref (ad k v0)), (1, .ref (ad k v1)), (2, .int v2), (3, .ref (ad k v3)), (4, .int v4), (5, .int v5), (6, .int v6), (7, .int v7)] [.int t0] σ := by
  unfold Mo_keeps_B149 at h
  refine ww_istore C [(8, .int t0), (0, .ref (ad k v0)), (1, .ref (ad k v1)), (2, .int v2), (3, .ref (ad k v3)), (4, .int v4), (5, .int v5), (6, .int v6), (7, .int v7)] hnL (lt_ rfl) rfl (dq dk_Mo_keeps 80 rfl) ?_
  refine ww_iload C 0 rfl (dq dk_Mo_keeps 81 rfl) ?_
  refine ww_if_eq C 213 (dq dk_Mo_keeps 82 rfl) (by decide) h (fun h => ?_) (fun h => ?_)
  · refine ww_iconst C (dq dk_Mo_keeps 114 rfl) ic_0 ?_
    exact ww_lv [1, 2, 3, 4, 5, 6, 8, 0] rfl (t_Mo_keeps_B214 C hR hRm hnL hK50 hK63 v0 v1 v2 v3 v4 v5 v7 t0 0 ho_v0 σ h)
  · refine ww_iload C 7 rfl (dq dk_Mo_keeps 83 rfl) ?_
    refine ww_if_lt C 213 (dq dk_Mo_keeps 84 rfl) (by decide) h (fun h => ?_) (fun h => ?_)
    · refine ww_iconst C (dq dk_Mo_keeps 114 rfl) ic_0 ?_
      exact ww_lv [1, 2, 3, 4, 5, 6, 8, 0] rfl (t_Mo_keeps_B214 C hR hRm hnL hK50 hK63 v0 v1 v2 v3 v4 v5 v7 t0 0 ho_v0 σ h)
    · refine ww_iload C 6 rfl (dq dk_Mo_keeps 85 rfl) ?_
      refine ww_iload C 7 rfl (dq dk_Mo_keeps 86 rfl) ?_
      refine ww_isub C (dq dk_Mo_keeps 87 rfl) ?_
      refine ww_iconst C (dq dk_Mo_keeps 88 rfl) ic_3 ?_
      refine ww_icmp_ne C 213 (dq dk_Mo_keeps 89 rfl) (by decide) h (fun h => ?_) (fun h => ?_)
      · refine ww_iconst C (dq dk_Mo_keeps 114 rfl) ic_0 ?_
        exact ww_lv [1, 2, 3, 4, 5, 6, 8, 0] rfl (t_Mo_keeps_B214 C hR hRm hnL hK50 hK63 v0 v1 v2 v3 v4 v5 v7 t0 0 ho_v0 σ h)
      · refine ww_aload_n C 2 rfl rfl (dq dk_Mo_keeps 90 rfl) ?_
        refine ww_iload C 7 rfl (dq dk_Mo_keeps 91 rfl) ?_
        refine ww_lrld C (dq dk_Mo_keeps 92 rfl) h (fun x1 h => ?_)
        refine ww_sipush C (dq dk_Mo_keeps 93 rfl) sp_131 ?_
        refine ww_icmp_ne C 213 (dq dk_Mo_keeps 94 rfl) (by decide) h (fun h => ?_) (fun h => ?_)
        · refine ww_iconst C (dq dk_Mo_keeps 114 rfl) ic_0 ?_
          exact ww_lv [1, 2, 3, 4, 5, 6, 8, 0] rfl (t_Mo_keeps_B214 C hR hRm hnL hK50 hK63 v0 v1 v2 v3 v4 v5 v7 t0 0 ho_v0 σ h)
        · refine ww_aload_n C 2 rfl rfl (dq dk_Mo_keeps 95 rfl) ?_
          refine ww_iload C 7 rfl (dq dk_Mo_keeps 96 rfl) ?_
          refine ww_iconst C (dq dk_Mo_keeps 97 rfl) ic_1 ?_
          refine ww_iadd C (dq dk_Mo_keeps 98 rfl) ?_
          refine ww_lrld C (dq dk_Mo_keeps 99 rfl) h (fun x2 h => ?_)
          refine ww_sipush C (dq dk_Mo_keeps 100 rfl) sp_224 ?_
          refine ww_aload_n C 1 rfl rfl (dq dk_Mo_keeps 101 rfl) ?_
          refine ww_geti C ko_Mo 48 ho_v0 (lt_ rfl) g_6_98 rfl rfl (dq dk_Mo_keeps 102 rfl) ?_
          refine ww_iadd C (dq dk_Mo_keeps 103 rfl) ?_
          refine ww_icmp_ne C 213 (dq dk_Mo_keeps 104 rfl) (by decide) h (fun h => ?_) (fun h => ?_)
          · refine ww_iconst C (dq dk_Mo_keeps 114 rfl) ic_0 ?_
            exact ww_lv [1, 2, 3, 4, 5, 6, 8, 0] rfl (t_Mo_keeps_B214 C hR hRm hnL hK50 hK63 v0 v1 v2 v3 v4 v5 v7 t0 0 ho_v0 σ h)
          · refine ww_aload_n C 2 rfl rfl (dq dk_Mo_keeps 105 rfl) ?_
            refine ww_iload C 7 rfl (dq dk_Mo_keeps 106 rfl) ?_
            refine ww_iconst C (dq dk_Mo_keeps 107 rfl) ic_2 ?_
            refine ww_iadd C (dq dk_Mo_keeps 108 rfl) ?_
            refine ww_lrld C (dq dk_Mo_keeps 109 rfl) h (fun x3 h => ?_)
            refine ww_sipush C (dq dk_Mo_keeps 110 rfl) sp_240 ?_
            refine ww_icmp_ne C 213 (dq dk_Mo_keeps 111 rfl) (by decide) h (fun h => ?_) (fun h => ?_)
            · refine ww_iconst C (dq dk_Mo_keeps 114 rfl) ic_0 ?_
              exact ww_lv [1, 2, 3, 4, 5, 6, 8, 0] rfl (t_Mo_keeps_B214 C hR hRm hnL hK50 hK63 v0 v1 v2 v3 v4 v5 v7 t0 0 ho_v0 σ h)
            · refine ww_iconst C (dq dk_Mo_keeps 112 rfl) ic_1 ?_
              refine ww_goto C 214 (dq dk_Mo_keeps 113 rfl) (by decide) ?_
              exact ww_lv [1, 2, 3, 4, 5, 6, 8, 0] rfl (t_Mo_keeps_B214 C hR hRm hnL hK50 hK63 v0 v1 v2 v3 v4 v5 v7 t0 1 ho_v0 σ h)
set_option maxHeartbeats 4000000 in
set_option maxRecDepth 100000 in
theorem t_Mo_keeps_B63 {k : Cfg} {res : Int32 × St} (C : Cx k prog_14_method_19_code "BundleHouseModel") (hR : RI k .boolean res) (hRm : k.2.2.2.1 = rm_Mo_keeps) (hnL : k.2.2.2.2.2.2.2.2.2.2.2.1 = 10) {K50 : Nat → Nat → Int32 → Nat → Int32 → St → Option (Int32 × St)} (hK50 : ∀ (v0 : Nat) (v1 : Nat) (v2 : Int32) (v3 : Nat) (v4 : Int32) (ho_v0 : kd v0 = 12) (σ : St), K50 v0 v1 v2 v3 v4 σ = some res → WW k 50 [(0, .ref (ad k v0)), (1, .ref (ad k v1)), (2, .int v2), (3, .ref (ad k v3)), (4, .int v4)] [] σ) : ∀ (n : Nat) (v0 : Nat) (v1 : Nat) (v2 : Int32) (v3 : Nat) (v4 : Int32) (v5 : Int32) (v6 : Int32) (ho_v0 : kd v0 = 12) (σ : St), Mo_keeps_B63 K50 n v0 v1 v2 v3 v4 v5 v6 σ = some res → WW k 63 [(0, .ref (ad k v0)), (1, .ref (ad k v1)), (2, .int v2), (3, .ref (ad k v3)), (4, .int v4), (5, .int v5), (6, .int v6)] [] σ := by
  intro n
  induction n with
  | zero =>
    intro v0 v1 v2 v3 v4 v5 v6 ho_v0 σ h
    have h : (none : Option (Int32 × St)) = some res := h
    cases h
  | succ n ih =>
    intro v0 v1 v2 v3 v4 v5 v6 ho_v0 σ h
    unfold Mo_keeps_B63 at h
    refine ww_iload C 5 rfl (dq dk_Mo_keeps 35 rfl) ?_
    refine ww_iload C 4 rfl (dq dk_Mo_keeps 36 rfl) ?_
    refine ww_bipush C (dq dk_Mo_keeps 37 rfl) bp_16 ?_
    refine ww_iadd C (dq dk_Mo_keeps 38 rfl) ?_
    refine ww_icmp_ge C 301 (dq dk_Mo_keeps 39 rfl) (by decide) h (fun h => ?_) (fun h => ?_)
    · refine ww_iinc C 4 (fun z => [(4, .int z), (0, .ref (ad k v0)), (1, .ref (ad k v1)), (2, .int v2), (3, .ref (ad k v3)), (5, .int v5), (6, .int v6)]) rfl ic_16 hnL (lt_ rfl) (fun _ => rfl) (dq dk_Mo_keeps 160 rfl) h (fun x1 h => ?_)
      refine ww_goto C 50 (dq dk_Mo_keeps 161 rfl) (by decide) ?_
      exact ww_lv [1, 2, 3, 4, 0] rfl (hK50 v0 v1 v2 v3 x1 ho_v0 σ h)
    · refine ww_aload_n C 0 rfl rfl (dq dk_Mo_keeps 40 rfl) ?_
      refine ww_aload_n C 1 rfl rfl (dq dk_Mo_keeps 41 rfl) ?_
      refine ww_iload_n C 2 rfl rfl (dq dk_Mo_keeps 42 rfl) ?_
      refine ww_iload C 5 rfl (dq dk_Mo_keeps 43 rfl) ?_
      refine ww_cVi (st := []) C (c_Mo_decode v0 ho_v0 v1 v2 v5) cw_Mo_decode ho_v0 (lt_ rfl) rfl g_7_29 hRm ⟨⟨rfl, rfl⟩, le_ rfl, le_ rfl⟩ rfl rfl rfl (le_ rfl) (dq dk_Mo_keeps 44 rfl) h (fun x3 σ2 h => ?_)
      refine ww_istore C [(7, .int x3), (0, .ref (ad k v0)), (1, .ref (ad k v1)), (2, .int v2), (3, .ref (ad k v3)), (4, .int v4), (5, .int v5), (6, .int v6)] hnL (lt_ rfl) rfl (dq dk_Mo_keeps 45 rfl) ?_
      refine ww_iload C 0 rfl (dq dk_Mo_keeps 46 rfl) ?_
      refine ww_if_eq C 97 (dq dk_Mo_keeps 47 rfl) (by decide) h (fun h => ?_) (fun h => ?_)
      · refine ww_aload_n C 1 rfl rfl (dq dk_Mo_keeps 52 rfl) ?_
        refine ww_iconst C (dq dk_Mo_keeps 53 rfl) ic_2 ?_
        refine ww_iload C 6 rfl (dq dk_Mo_keeps 54 rfl) ?_
        refine ww_cVi (st := []) C (c_Mo_faults v0 ho_v0 2 v5) cw_Mo_faults ho_v0 (lt_ rfl) rfl g_7_25 hRm ⟨⟨rfl, rfl⟩, le_ rfl, le_ rfl⟩ rfl rfl rfl (le_ rfl) (dq dk_Mo_keeps 55 rfl) h (fun x5 σ4 h => ?_)
        exact ww_zret C hR (dq dk_Mo_keeps 56 rfl) h
      · refine ww_aload_n C 1 rfl rfl (dq dk_Mo_keeps 48 rfl) ?_
        refine ww_geti C ko_Mo 46 ho_v0 (lt_ rfl) g_6_96 rfl rfl (dq dk_Mo_keeps 49 rfl) ?_
        refine ww_bipush C (dq dk_Mo_keeps 50 rfl) bp_23 ?_
        refine ww_icmp_ne C 105 (dq dk_Mo_keeps 51 rfl) (by decide) h (fun h => ?_) (fun h => ?_)
        · refine ww_iload C 6 rfl (dq dk_Mo_keeps 57 rfl) ?_
          refine ww_iload C 0 rfl (dq dk_Mo_keeps 58 rfl) ?_
          refine ww_iadd C (dq dk_Mo_keeps 59 rfl) ?_
          refine ww_iload C 5 rfl (dq dk_Mo_keeps 60 rfl) ?_
          refine ww_bipush C (dq dk_Mo_keeps 61 rfl) bp_16 ?_
          refine ww_iadd C (dq dk_Mo_keeps 62 rfl) ?_
          refine ww_icmp_le C 126 (dq dk_Mo_keeps 63 rfl) (by decide) h (fun h => ?_) (fun h => ?_)
          · refine ww_aload_n C 1 rfl rfl (dq dk_Mo_keeps 69 rfl) ?_
            refine ww_geti C ko_Mo 46 ho_v0 (lt_ rfl) g_6_96 rfl rfl (dq dk_Mo_keeps 70 rfl) ?_
            refine ww_bipush C (dq dk_Mo_keeps 71 rfl) bp_27 ?_
            refine ww_icmp_eq C 144 (dq dk_Mo_keeps 72 rfl) (by decide) h (fun h => ?_) (fun h => ?_)
            · refine ww_iconst C (dq dk_Mo_keeps 77 rfl) ic_1 ?_
              refine ww_goto C 149 (dq dk_Mo_keeps 78 rfl) (by decide) ?_
              exact ww_lv [1, 2, 3, 4, 5, 6, 7, 0] rfl (t_Mo_keeps_B149 C hR hRm hnL hK50 ih v0 v1 v2 v3 v4 v5 v6 x3 1 ho_v0 σ2 h)
            · refine ww_aload_n C 1 rfl rfl (dq dk_Mo_keeps 73 rfl) ?_
              refine ww_geti C ko_Mo 46 ho_v0 (lt_ rfl) g_6_96 rfl rfl (dq dk_Mo_keeps 74 rfl) ?_
              refine ww_bipush C (dq dk_Mo_keeps 75 rfl) bp_28 ?_
              refine ww_icmp_ne C 148 (dq dk_Mo_keeps 76 rfl) (by decide) h (fun h => ?_) (fun h => ?_)
              · refine ww_iconst C (dq dk_Mo_keeps 79 rfl) ic_0 ?_
                exact ww_lv [1, 2, 3, 4, 5, 6, 7, 0] rfl (t_Mo_keeps_B149 C hR hRm hnL hK50 ih v0 v1 v2 v3 v4 v5 v6 x3 0 ho_v0 σ2 h)
              · refine ww_iconst C (dq dk_Mo_keeps 77 rfl) ic_1 ?_
                refine ww_goto C 149 (dq dk_Mo_keeps 78 rfl) (by decide) ?_
                exact ww_lv [1, 2, 3, 4, 5, 6, 7, 0] rfl (t_Mo_keeps_B149 C hR hRm hnL hK50 ih v0 v1 v2 v3 v4 v5 v6 x3 1 ho_v0 σ2 h)
          · refine ww_aload_n C 1 rfl rfl (dq dk_Mo_keeps 64 rfl) ?_
            refine ww_iconst C (dq dk_Mo_keeps 65 rfl) ic_3 ?_
            refine ww_iload C 6 rfl (dq dk_Mo_keeps 66 rfl) ?_
            refine ww_cVi (st := []) C (c_Mo_faults v0 ho_v0 3 v5) cw_Mo_faults ho_v0 (lt_ rfl) rfl g_7_25 hRm ⟨⟨rfl, rfl⟩, le_ rfl, le_ rfl⟩ rfl rfl rfl (le_ rfl) (dq dk_Mo_keeps 67 rfl) h (fun x7 σ6 h => ?_)
            exact ww_zret C hR (dq dk_Mo_keeps 68 rfl) h
        · refine ww_aload_n C 1 rfl rfl (dq dk_Mo_keeps 52 rfl) ?_
          refine ww_iconst C (dq dk_Mo_keeps 53 rfl) ic_2 ?_
          refine ww_iload C 6 rfl (dq dk_Mo_keeps 54 rfl) ?_
          refine ww_cVi (st := []) C (c_Mo_faults v0 ho_v0 2 v5) cw_Mo_faults ho_v0 (lt_ rfl) rfl g_7_25 hRm ⟨⟨rfl, rfl⟩, le_ rfl, le_ rfl⟩ rfl rfl rfl (le_ rfl) (dq dk_Mo_keeps 55 rfl) h (fun x9 σ8 h => ?_)
          exact ww_zret C hR (dq dk_Mo_keeps 56 rfl) h
set_option maxHeartbeats 4000000 in
set_option maxRecDepth 100000 in
theorem t_Mo_keeps_B50 {k : Cfg} {res : Int32 × St} (C : Cx k prog_14_method_19_code "BundleHouseModel") (hR : RI k .boolean res) (hRm : k.2.2.2.1 = rm_Mo_keeps) (hnL : k.2.2.2.2.2.2.2.2.2.2.2.1 = 10) : ∀ (n : Nat) (v0 : Nat) (v1 : Nat) (v2 : Int32) (v3 : Nat) (v4 : Int32) (ho_v0 : kd v0 = 12) (σ : St), Mo_keeps_B50 n v0 v1 v2 v3 v4 σ = some res → WW k 50 [(0, .ref (ad k v0)), (1, .ref (ad k v1)), (2, .int v2), (3, .ref (ad k v3)), (4, .int v4)] [] σ := by
  intro n
  induction n with
  | zero =>
    intro v0 v1 v2 v3 v4 ho_v0 σ h
    have h : (none : Option (Int32 × St)) = some res := h
    cases h
  | succ n ih =>
    intro v0 v1 v2 v3 v4 ho_v0 σ h
    unfold Mo_keeps_B50 at h
    refine ww_iload C 4 rfl (dq dk_Mo_keeps 28 rfl) ?_
    refine ww_iload_n C 2 rfl rfl (dq dk_Mo_keeps 29 rfl) ?_
    refine ww_icmp_ge C 307 (dq dk_Mo_keeps 30 rfl) (by decide) h (fun h => ?_) (fun h => ?_)
    · refine ww_iconst C (dq dk_Mo_keeps 162 rfl) ic_0 ?_
      refine ww_istore C [(4, .int 0), (0, .ref (ad k v0)), (1, .ref (ad k v1)), (2, .int v2), (3, .ref (ad k v3))] hnL (lt_ rfl) rfl (dq dk_Mo_keeps 163 rfl) ?_
      exact ww_lv [1, 2, 3, 4, 0] rfl (t_Mo_keeps_B310 C hR hRm hnL FU v0 v1 v2 v3 0 ho_v0 σ h)
    · refine ww_iload C 4 rfl (dq dk_Mo_keeps 31 rfl) ?_
      refine ww_istore C [(5, .int v4), (0, .ref (ad k v0)), (1, .ref (ad k v1)), (2, .int v2), (3, .ref (ad k v3)), (4, .int v4)] hnL (lt_ rfl) rfl (dq dk_Mo_keeps 32 rfl) ?_
      refine ww_iconst C (dq dk_Mo_keeps 33 rfl) ic_m1 ?_
      refine ww_istore C [(6, .int (-1)), (5, .int v4), (0, .ref (ad k v0)), (1, .ref (ad k v1)), (2, .int v2), (3, .ref (ad k v3)), (4, .int v4)] hnL (lt_ rfl) rfl (dq dk_Mo_keeps 34 rfl) ?_
      exact ww_lv [2, 3, 4, 5, 6, 1, 0] rfl (t_Mo_keeps_B63 C hR hRm hnL ih FU v0 v1 v2 v3 v4 v4 (-1) ho_v0 σ h)
set_option maxHeartbeats 4000000 in
set_option maxRecDepth 100000 in
theorem t_Mo_keeps_B30 {k : Cfg} {res : Int32 × St} (C : Cx k prog_14_method_19_code "BundleHouseModel") (hR : RI k .boolean res) (hRm : k.2.2.2.1 = rm_Mo_keeps) (hnL : k.2.2.2.2.2.2.2.2.2.2.2.1 = 10) : ∀ (n : Nat) (v0 : Nat) (v1 : Nat) (v2 : Int32) (v3 : Nat) (v4 : Int32) (ho_v0 : kd v0 = 12) (σ : St), Mo_keeps_B30 n v0 v1 v2 v3 v4 σ = some res → WW k 30 [(0, .ref (ad k v0)), (1, .ref (ad k v1)), (2, .int v2), (3, .ref (ad k v3)), (4, .int v4)] [] σ := by
  intro n
  induction n with
  | zero =>
    intro v0 v1 v2 v3 v4 ho_v0 σ h
    have h : (none : Option (Int32 × St)) = some res := h
    cases h
  | succ n ih =>
    intro v0 v1 v2 v3 v4 ho_v0 σ h
    unfold Mo_keeps_B30 at h
    refine ww_iload C 4 rfl (dq dk_Mo_keeps 17 rfl) ?_
    refine ww_iload_n C 2 rfl rfl (dq dk_Mo_keeps 18 rfl) ?_
    refine ww_icmp_ge C 47 (dq dk_Mo_keeps 19 rfl) (by decide) h (fun h => ?_) (fun h => ?_)
    · refine ww_iconst C (dq dk_Mo_keeps 26 rfl) ic_0 ?_
      refine ww_istore C [(4, .int 0), (0, .ref (ad k v0)), (1, .ref (ad k v1)), (2, .int v2), (3, .ref (ad k v3))] hnL (lt_ rfl) rfl (dq dk_Mo_keeps 27 rfl) ?_
      exact ww_lv [1, 2, 3, 4, 0] rfl (t_Mo_keeps_B50 C hR hRm hnL FU v0 v1 v2 v3 0 ho_v0 σ h)
    · refine ww_aload_n C 3 rfl rfl (dq dk_Mo_keeps 20 rfl) ?_
      refine ww_iload C 4 rfl (dq dk_Mo_keeps 21 rfl) ?_
      refine ww_iconst C (dq dk_Mo_keeps 22 rfl) ic_0 ?_
      refine ww_srst C (dq dk_Mo_keeps 23 rfl) h (fun σ1 h => ?_)
      refine ww_iinc C 4 (fun z => [(4, .int z), (0, .ref (ad k v0)), (1, .ref (ad k v1)), (2, .int v2), (3, .ref (ad k v3))]) rfl ic_1 hnL (lt_ rfl) (fun _ => rfl) (dq dk_Mo_keeps 24 rfl) h (fun x2 h => ?_)
      refine ww_goto C 30 (dq dk_Mo_keeps 25 rfl) (by decide) ?_
      exact ww_lv [1, 2, 3, 4, 0] rfl (ih v0 v1 v2 v3 x2 ho_v0 σ1 h)
set_option maxHeartbeats 4000000 in
set_option maxRecDepth 100000 in
theorem c_Mo_keeps (v0 : Nat) (ho_v0 : kd v0 = 12) (v1 : Nat) (v2 : Int32) (v3 : Nat) : MI y_Mo_keeps rm_Mo_keeps prog_14_method_19_code 10 .boolean (fun a => [.ref (a v0), .ref (a v1), .int v2, .ref (a v3)]) (Mo_keeps v0 v1 v2 v3) := by
  refine mi_of (by decide) (fun _ => le_ rfl) ?_
  intro k res σ C hR hRm hnL h
  unfold Mo_keeps at h
  show WW k 0 [(0, .ref (ad k v0)), (1, .ref (ad k v1)), (2, .int v2), (3, .ref (ad k v3))] [] σ
  refine ww_iload_n C 2 rfl rfl (dq dk_Mo_keeps 0 rfl) ?_
  refine ww_bipush C (dq dk_Mo_keeps 1 rfl) bp_16 ?_
  refine ww_icmp_lt C 20 (dq dk_Mo_keeps 2 rfl) (by decide) h (fun h => ?_) (fun h => ?_)
  · refine ww_aload_n C 0 rfl rfl (dq dk_Mo_keeps 10 rfl) ?_
    refine ww_iconst C (dq dk_Mo_keeps 11 rfl) ic_1 ?_
    refine ww_iload_n C 2 rfl rfl (dq dk_Mo_keeps 12 rfl) ?_
    refine ww_cVi (st := []) C (c_Mo_faults v0 ho_v0 1 v2) cw_Mo_faults ho_v0 (lt_ rfl) rfl g_7_25 hRm ⟨⟨rfl, rfl⟩, le_ rfl, le_ rfl⟩ rfl rfl rfl (le_ rfl) (dq dk_Mo_keeps 13 rfl) h (fun x2 σ1 h => ?_)
    exact ww_zret C hR (dq dk_Mo_keeps 14 rfl) h
  · refine ww_iload_n C 2 rfl rfl (dq dk_Mo_keeps 3 rfl) ?_
    refine ww_sipush C (dq dk_Mo_keeps 4 rfl) sp_1024 ?_
    refine ww_icmp_gt C 20 (dq dk_Mo_keeps 5 rfl) (by decide) h (fun h => ?_) (fun h => ?_)
    · refine ww_aload_n C 0 rfl rfl (dq dk_Mo_keeps 10 rfl) ?_
      refine ww_iconst C (dq dk_Mo_keeps 11 rfl) ic_1 ?_
      refine ww_iload_n C 2 rfl rfl (dq dk_Mo_keeps 12 rfl) ?_
      refine ww_cVi (st := []) C (c_Mo_faults v0 ho_v0 1 v2) cw_Mo_faults ho_v0 (lt_ rfl) rfl g_7_25 hRm ⟨⟨rfl, rfl⟩, le_ rfl, le_ rfl⟩ rfl rfl rfl (le_ rfl) (dq dk_Mo_keeps 13 rfl) h (fun x4 σ3 h => ?_)
      exact ww_zret C hR (dq dk_Mo_keeps 14 rfl) h
    · refine ww_iload_n C 2 rfl rfl (dq dk_Mo_keeps 6 rfl) ?_
      refine ww_bipush C (dq dk_Mo_keeps 7 rfl) bp_16 ?_
      refine ww_irem C (by decide) (dq dk_Mo_keeps 8 rfl) ?_
      refine ww_if_eq C 27 (dq dk_Mo_keeps 9 rfl) (by decide) h (fun h => ?_) (fun h => ?_)
      · refine ww_iconst C (dq dk_Mo_keeps 15 rfl) ic_0 ?_
        refine ww_istore C [(4, .int 0), (0, .ref (ad k v0)), (1, .ref (ad k v1)), (2, .int v2), (3, .ref (ad k v3))] hnL (lt_ rfl) rfl (dq dk_Mo_keeps 16 rfl) ?_
        exact ww_lv [1, 2, 3, 4, 0] rfl (t_Mo_keeps_B30 C hR hRm hnL FU v0 v1 v2 v3 0 ho_v0 σ h)
      · refine ww_aload_n C 0 rfl rfl (dq dk_Mo_keeps 10 rfl) ?_
        refine ww_iconst C (dq dk_Mo_keeps 11 rfl) ic_1 ?_
        refine ww_iload_n C 2 rfl rfl (dq dk_Mo_keeps 12 rfl) ?_
        refine ww_cVi (st := []) C (c_Mo_faults v0 ho_v0 1 v2) cw_Mo_faults ho_v0 (lt_ rfl) rfl g_7_25 hRm ⟨⟨rfl, rfl⟩, le_ rfl, le_ rfl⟩ rfl rfl rfl (le_ rfl) (dq dk_Mo_keeps 13 rfl) h (fun x6 σ5 h => ?_)
        exact ww_zret C hR (dq dk_Mo_keeps 14 rfl) h
abbrev y_Mo_becomes : MethodName := ⟨"BundleHouseModel", "becomes", "([II)V"⟩
def dl_Mo_becomes : List (Nat × Instr × Nat) := [(0, .aload_n 0, 1), (1, .iload_n 2, 1), (2, .putfield 205, 3), (5, .iconst 0, 1), (6, .istore_n 3, 1), (7, .iload_n 3, 1), (8, .iload_n 2, 1), (9, .if_icmp .ge 30, 3), (12, .aload_n 0, 1), (13, .getfield 17, 3), (16, .iload_n 3, 1), (17, .aload_n 1, 1), (18, .iload_n 3, 1), (19, .iaload, 1), (20, .iastore, 1), (21, .aload_n 0, 1), (22, .getfield 20, 3), (25, .iload_n 3, 1), (26, .aload_n 0, 1), (27, .getfield 102, 3), (30, .iload_n 3, 1), (31, .iaload, 1), (32, .iastore, 1), (33, .iinc 3 1, 3), (36, .goto (-29), 3), (39, .aload_n 0, 1), (40, .getfield 72, 3), (43, .iconst 0, 1), (44, .iconst 0, 1), (45, .bastore, 1), (46, .aload_n 0, 1), (47, .getfield 72, 3), (50, .iconst 1, 1), (51, .iconst 0, 1), (52, .bastore, 1), (53, .return_, 1)]
set_option maxRecDepth 100000 in
theorem dk_Mo_becomes : ∀ q ∈ dl_Mo_becomes, decode prog_14_method_22_code q.1 = .ok q.2 := by decide +kernel
abbrev rm_Mo_becomes : Room := { frames := 0, cells := 0, slots := 0, locals := 0 }
theorem cw_Mo_becomes : CWV y_Mo_becomes prog_14_method_22_code 4 none 2 := ⟨⟨g_7_79, g_1_13, by decide, by decide, by decide +kernel⟩, g_7_78, gs_5_12⟩
set_option maxHeartbeats 4000000 in
set_option maxRecDepth 100000 in
theorem t_Mo_becomes_B7 {k : Cfg} {res : St} (C : Cx k prog_14_method_22_code "BundleHouseModel") (hR : RV k res) (hRm : k.2.2.2.1 = rm_Mo_becomes) (hnL : k.2.2.2.2.2.2.2.2.2.2.2.1 = 4) : ∀ (n : Nat) (v0 : Nat) (v1 : Nat) (v2 : Int32) (v3 : Int32) (ho_v0 : kd v0 = 12) (σ : St), Mo_becomes_B7 n v0 v1 v2 v3 σ = some res → WW k 7 [(0, .ref (ad k v0)), (1, .ref (ad k v1)), (2, .int v2), (3, .int v3)] [] σ := by
  intro n
  induction n with
  | zero =>
    intro v0 v1 v2 v3 ho_v0 σ h
    have h : (none : Option (St)) = some res := h
    cases h
  | succ n ih =>
    intro v0 v1 v2 v3 ho_v0 σ h
    unfold Mo_becomes_B7 at h
    refine ww_iload_n C 3 rfl rfl (dq dk_Mo_becomes 5 rfl) ?_
    refine ww_iload_n C 2 rfl rfl (dq dk_Mo_becomes 6 rfl) ?_
    refine ww_icmp_ge C 39 (dq dk_Mo_becomes 7 rfl) (by decide) h (fun h => ?_) (fun h => ?_)
    · refine ww_aload_n C 0 rfl rfl (dq dk_Mo_becomes 25 rfl) ?_
      refine ww_getr C ko_Mo 30 ho_v0 (lt_ rfl) g_6_80 rfl rfl (dq dk_Mo_becomes 26 rfl) ?_
      refine ww_iconst C (dq dk_Mo_becomes 27 rfl) ic_0 ?_
      refine ww_iconst C (dq dk_Mo_becomes 28 rfl) ic_0 ?_
      refine ww_zastL C (kc_Mo_30 _ ho_v0).1 (kc_Mo_30 _ ho_v0).2 (Or.inl rfl) (dq dk_Mo_becomes 29 rfl) h (fun σ1 h => ?_)
      refine ww_aload_n C 0 rfl rfl (dq dk_Mo_becomes 30 rfl) ?_
      refine ww_getr C ko_Mo 30 ho_v0 (lt_ rfl) g_6_80 rfl rfl (dq dk_Mo_becomes 31 rfl) ?_
      refine ww_iconst C (dq dk_Mo_becomes 32 rfl) ic_1 ?_
      refine ww_iconst C (dq dk_Mo_becomes 33 rfl) ic_0 ?_
      refine ww_zastL C (kc_Mo_30 _ ho_v0).1 (kc_Mo_30 _ ho_v0).2 (Or.inl rfl) (dq dk_Mo_becomes 34 rfl) h (fun σ2 h => ?_)
      exact ww_vret C hR (dq dk_Mo_becomes 35 rfl) h
    · refine ww_aload_n C 0 rfl rfl (dq dk_Mo_becomes 8 rfl) ?_
      refine ww_getr C ko_Mo 5 ho_v0 (lt_ rfl) g_6_55 rfl rfl (dq dk_Mo_becomes 9 rfl) ?_
      refine ww_iload_n C 3 rfl rfl (dq dk_Mo_becomes 10 rfl) ?_
      refine ww_aload_n C 1 rfl rfl (dq dk_Mo_becomes 11 rfl) ?_
      refine ww_iload_n C 3 rfl rfl (dq dk_Mo_becomes 12 rfl) ?_
      refine ww_lrld C (dq dk_Mo_becomes 13 rfl) h (fun x3 h => ?_)
      refine ww_iast C (kc_Mo_5 _ ho_v0).1 (kc_Mo_5 _ ho_v0).2 (dq dk_Mo_becomes 14 rfl) h (fun σ4 h => ?_)
      refine ww_aload_n C 0 rfl rfl (dq dk_Mo_becomes 15 rfl) ?_
      refine ww_getr C ko_Mo 7 ho_v0 (lt_ rfl) g_6_57 rfl rfl (dq dk_Mo_becomes 16 rfl) ?_
      refine ww_iload_n C 3 rfl rfl (dq dk_Mo_becomes 17 rfl) ?_
      refine ww_aload_n C 0 rfl rfl (dq dk_Mo_becomes 18 rfl) ?_
      refine ww_getr C ko_Mo 54 ho_v0 (lt_ rfl) g_6_104 rfl rfl (dq dk_Mo_becomes 19 rfl) ?_
      refine ww_iload_n C 3 rfl rfl (dq dk_Mo_becomes 20 rfl) ?_
      refine ww_iald C (kc_Mo_54 _ ho_v0).1 (kc_Mo_54 _ ho_v0).2 (dq dk_Mo_becomes 21 rfl) h (fun x5 h => ?_)
      refine ww_iast C (kc_Mo_7 _ ho_v0).1 (kc_Mo_7 _ ho_v0).2 (dq dk_Mo_becomes 22 rfl) h (fun σ6 h => ?_)
      refine ww_iinc C 3 (fun z => [(3, .int z), (0, .ref (ad k v0)), (1, .ref (ad k v1)), (2, .int v2)]) rfl ic_1 hnL (lt_ rfl) (fun _ => rfl) (dq dk_Mo_becomes 23 rfl) h (fun x7 h => ?_)
      refine ww_goto C 7 (dq dk_Mo_becomes 24 rfl) (by decide) ?_
      exact ww_lv [1, 2, 3, 0] rfl (ih v0 v1 v2 x7 ho_v0 σ6 h)
set_option maxHeartbeats 4000000 in
set_option maxRecDepth 100000 in
theorem c_Mo_becomes (v0 : Nat) (ho_v0 : kd v0 = 12) (v1 : Nat) (v2 : Int32) : MV y_Mo_becomes rm_Mo_becomes prog_14_method_22_code 4 (fun a => [.ref (a v0), .ref (a v1), .int v2]) (Mo_becomes v0 v1 v2) := by
  refine mv_of (by decide) (fun _ => le_ rfl) ?_
  intro k res σ C hR hRm hnL h
  unfold Mo_becomes at h
  show WW k 0 [(0, .ref (ad k v0)), (1, .ref (ad k v1)), (2, .int v2)] [] σ
  refine ww_aload_n C 0 rfl rfl (dq dk_Mo_becomes 0 rfl) ?_
  refine ww_iload_n C 2 rfl rfl (dq dk_Mo_becomes 1 rfl) ?_
  refine ww_puti C ko_Mo 6 ho_v0 (lt_ rfl) g_6_56 rfl rfl rfl rfl (dq dk_Mo_becomes 2 rfl) h (fun σ1 h => ?_)
  refine ww_iconst C (dq dk_Mo_becomes 3 rfl) ic_0 ?_
  refine ww_istore_n C [(3, .int 0), (0, .ref (ad k v0)), (1, .ref (ad k v1)), (2, .int v2)] rfl hnL (lt_ rfl) rfl (dq dk_Mo_becomes 4 rfl) ?_
  exact ww_lv [1, 2, 3, 0] rfl (t_Mo_becomes_B7 C hR hRm hnL FU v0 v1 v2 0 ho_v0 σ1 h)
abbrev y_Mo_check : MethodName := ⟨"BundleHouseModel", "check", "()I"⟩
def dl_Mo_check : List (Nat × Instr × Nat) := [(0, .aload_n 0, 1), (1, .iconst 0, 1), (2, .putfield 105, 3), (5, .aload_n 0, 1), (6, .getfield 108, 3), (9, .istore_n 1, 1), (10, .aload_n 0, 1), (11, .iconst 0, 1), (12, .putfield 108, 3), (15, .aload_n 0, 1), (16, .aload_n 0, 1), (17, .getfield 7, 3), (20, .iload_n 1, 1), (21, .aload_n 0, 1), (22, .getfield 102, 3), (25, .invokevirtual 194, 3), (28, .ifCond .ne 8, 3), (31, .aload_n 0, 1), (32, .getfield 181, 3), (35, .ireturn, 1), (36, .aload_n 0, 1), (37, .aload_n 0, 1), (38, .getfield 7, 3), (41, .iload_n 1, 1), (42, .invokevirtual 198, 3), (45, .aload_n 0, 1), (46, .iconst 0, 1), (47, .putfield 202, 3), (50, .iconst 0, 1), (51, .ireturn, 1)]
set_option maxRecDepth 100000 in
theorem dk_Mo_check : ∀ q ∈ dl_Mo_check, decode prog_14_method_21_code q.1 = .ok q.2 := by decide +kernel
abbrev rm_Mo_check : Room := { frames := 8, cells := 0, slots := 0, locals := 186 }
theorem cw_Mo_check : CWV y_Mo_check prog_14_method_21_code 2 (some .int) 0 := ⟨⟨g_7_20, g_1_13, by decide, by decide, by decide +kernel⟩, g_7_18, g_7_19⟩
set_option maxHeartbeats 4000000 in
set_option maxRecDepth 100000 in
theorem c_Mo_check (v0 : Nat) (ho_v0 : kd v0 = 12) : MI y_Mo_check rm_Mo_check prog_14_method_21_code 2 .int (fun a => [.ref (a v0)]) (Mo_check v0) := by
  refine mi_of (by decide) (fun _ => le_ rfl) ?_
  intro k res σ C hR hRm hnL h
  unfold Mo_check at h
  show WW k 0 [(0, .ref (ad k v0))] [] σ
  refine ww_aload_n C 0 rfl rfl (dq dk_Mo_check 0 rfl) ?_
  refine ww_iconst C (dq dk_Mo_check 1 rfl) ic_0 ?_
  refine ww_puti C ko_Mo 0 ho_v0 (lt_ rfl) g_6_50 rfl rfl rfl rfl (dq dk_Mo_check 2 rfl) h (fun σ1 h => ?_)
  refine ww_aload_n C 0 rfl rfl (dq dk_Mo_check 3 rfl) ?_
  refine ww_geti C ko_Mo 2 ho_v0 (lt_ rfl) g_6_52 rfl rfl (dq dk_Mo_check 4 rfl) ?_
  refine ww_nmi h (fun x2 h => ?_)
  refine ww_istore_n C [(1, .int x2), (0, .ref (ad k v0))] rfl hnL (lt_ rfl) rfl (dq dk_Mo_check 5 rfl) ?_
  refine ww_aload_n C 1 rfl rfl (dq dk_Mo_check 6 rfl) ?_
  refine ww_iconst C (dq dk_Mo_check 7 rfl) ic_0 ?_
  refine ww_puti C ko_Mo 2 ho_v0 (lt_ rfl) g_6_52 rfl rfl rfl rfl (dq dk_Mo_check 8 rfl) h (fun σ3 h => ?_)
  refine ww_aload_n C 1 rfl rfl (dq dk_Mo_check 9 rfl) ?_
  refine ww_aload_n C 1 rfl rfl (dq dk_Mo_check 10 rfl) ?_
  refine ww_getr C ko_Mo 1 ho_v0 (lt_ rfl) g_6_51 rfl rfl (dq dk_Mo_check 11 rfl) ?_
  refine ww_iload_n C 0 rfl rfl (dq dk_Mo_check 12 rfl) ?_
  refine ww_aload_n C 1 rfl rfl (dq dk_Mo_check 13 rfl) ?_
  refine ww_getr C ko_Mo 54 ho_v0 (lt_ rfl) g_6_104 rfl rfl (dq dk_Mo_check 14 rfl) ?_
  refine ww_cVi (st := []) C (c_Mo_keeps v0 ho_v0 (ch v0 1) x2 (ch v0 54)) cw_Mo_keeps ho_v0 (lt_ rfl) rfl g_7_21 hRm ⟨⟨rfl, rfl⟩, le_ rfl, le_ rfl⟩ rfl rfl rfl (le_ rfl) (dq dk_Mo_check 15 rfl) h (fun x5 σ4 h => ?_)
  refine ww_if_ne C 36 (dq dk_Mo_check 16 rfl) (by decide) h (fun h => ?_) (fun h => ?_)
  · refine ww_aload_n C 1 rfl rfl (dq dk_Mo_check 20 rfl) ?_
    refine ww_aload_n C 1 rfl rfl (dq dk_Mo_check 21 rfl) ?_
    refine ww_getr C ko_Mo 1 ho_v0 (lt_ rfl) g_6_51 rfl rfl (dq dk_Mo_check 22 rfl) ?_
    refine ww_iload_n C 0 rfl rfl (dq dk_Mo_check 23 rfl) ?_
    refine ww_cVv (st := []) C (c_Mo_becomes v0 ho_v0 (ch v0 1) x2) cw_Mo_becomes ho_v0 (lt_ rfl) rfl g_7_76 hRm ⟨⟨rfl, rfl⟩, le_ rfl, le_ rfl⟩ rfl rfl rfl (le_ rfl) (dq dk_Mo_check 24 rfl) h (fun σ6 h => ?_)
    refine ww_aload_n C 1 rfl rfl (dq dk_Mo_check 25 rfl) ?_
    refine ww_iconst C (dq dk_Mo_check 26 rfl) ic_0 ?_
    refine ww_putZ C ko_Mo 10 ho_v0 (lt_ rfl) g_6_60 rfl rfl rfl rfl (Or.inl rfl) (dq dk_Mo_check 27 rfl) h (fun σ7 h => ?_)
    refine ww_iconst C (dq dk_Mo_check 28 rfl) ic_0 ?_
    exact ww_iret C hR (dq dk_Mo_check 29 rfl) h
  · refine ww_aload_n C 1 rfl rfl (dq dk_Mo_check 17 rfl) ?_
    refine ww_geti C ko_Mo 3 ho_v0 (lt_ rfl) g_6_53 rfl rfl (dq dk_Mo_check 18 rfl) ?_
    exact ww_iret C hR (dq dk_Mo_check 19 rfl) h
abbrev y_Mo_fault : MethodName := ⟨"BundleHouseModel", "fault", "(I)I"⟩
def dl_Mo_fault : List (Nat × Instr × Nat) := [(0, .aload_n 0, 1), (1, .iconst 0, 1), (2, .putfield 105, 3), (5, .iload_n 1, 1), (6, .ifCond .ne 10, 3), (9, .aload_n 0, 1), (10, .getfield 181, 3), (13, .goto 16, 3), (16, .iload_n 1, 1), (17, .iconst 1, 1), (18, .if_icmp .ne 10, 3), (21, .aload_n 0, 1), (22, .getfield 13, 3), (25, .goto 4, 3), (28, .iconst (-1), 1), (29, .ireturn, 1)]
set_option maxRecDepth 100000 in
theorem dk_Mo_fault : ∀ q ∈ dl_Mo_fault, decode prog_14_method_23_code q.1 = .ok q.2 := by decide +kernel
abbrev rm_Mo_fault : Room := { frames := 0, cells := 0, slots := 0, locals := 0 }
theorem cw_Mo_fault : CWV y_Mo_fault prog_14_method_23_code 2 (some .int) 1 := ⟨⟨g_7_83, g_1_13, by decide, by decide, by decide +kernel⟩, g_7_81, g_7_82⟩
set_option maxHeartbeats 4000000 in
set_option maxRecDepth 100000 in
theorem c_Mo_fault (v0 : Nat) (ho_v0 : kd v0 = 12) (v1 : Int32) : MI y_Mo_fault rm_Mo_fault prog_14_method_23_code 2 .int (fun a => [.ref (a v0), .int v1]) (Mo_fault v0 v1) := by
  refine mi_of (by decide) (fun _ => le_ rfl) ?_
  intro k res σ C hR hRm hnL h
  unfold Mo_fault at h
  show WW k 0 [(0, .ref (ad k v0)), (1, .int v1)] [] σ
  refine ww_aload_n C 0 rfl rfl (dq dk_Mo_fault 0 rfl) ?_
  refine ww_iconst C (dq dk_Mo_fault 1 rfl) ic_0 ?_
  refine ww_puti C ko_Mo 0 ho_v0 (lt_ rfl) g_6_50 rfl rfl rfl rfl (dq dk_Mo_fault 2 rfl) h (fun σ1 h => ?_)
  refine ww_iload_n C 1 rfl rfl (dq dk_Mo_fault 3 rfl) ?_
  refine ww_if_ne C 16 (dq dk_Mo_fault 4 rfl) (by decide) h (fun h => ?_) (fun h => ?_)
  · refine ww_iload_n C 1 rfl rfl (dq dk_Mo_fault 8 rfl) ?_
    refine ww_iconst C (dq dk_Mo_fault 9 rfl) ic_1 ?_
    refine ww_icmp_ne C 28 (dq dk_Mo_fault 10 rfl) (by decide) h (fun h => ?_) (fun h => ?_)
    · refine ww_iconst C (dq dk_Mo_fault 14 rfl) ic_m1 ?_
      exact ww_iret C hR (dq dk_Mo_fault 15 rfl) h
    · refine ww_aload_n C 0 rfl rfl (dq dk_Mo_fault 11 rfl) ?_
      refine ww_geti C ko_Mo 4 ho_v0 (lt_ rfl) g_6_54 rfl rfl (dq dk_Mo_fault 12 rfl) ?_
      refine ww_goto C 29 (dq dk_Mo_fault 13 rfl) (by decide) ?_
      exact ww_iret C hR (dq dk_Mo_fault 15 rfl) h
  · refine ww_aload_n C 0 rfl rfl (dq dk_Mo_fault 5 rfl) ?_
    refine ww_geti C ko_Mo 3 ho_v0 (lt_ rfl) g_6_53 rfl rfl (dq dk_Mo_fault 6 rfl) ?_
    refine ww_goto C 29 (dq dk_Mo_fault 7 rfl) (by decide) ?_
    exact ww_iret C hR (dq dk_Mo_fault 15 rfl) h
abbrev y_Mo_isRegister : MethodName := ⟨"BundleHouseModel", "isRegister", "(I)Z"⟩
def dl_Mo_isRegister : List (Nat × Instr × Nat) := [(0, .iload_n 0, 1), (1, .ifCond .lt 13, 3), (4, .iload_n 0, 1), (5, .bipush 8, 2), (7, .if_icmp .ge 7, 3), (10, .iconst 1, 1), (11, .goto 4, 3), (14, .iconst 0, 1), (15, .ireturn, 1)]
set_option maxRecDepth 100000 in
theorem dk_Mo_isRegister : ∀ q ∈ dl_Mo_isRegister, decode prog_14_method_24_code q.1 = .ok q.2 := by decide +kernel
abbrev rm_Mo_isRegister : Room := { frames := 0, cells := 0, slots := 0, locals := 0 }
theorem cw_Mo_isRegister : CWS y_Mo_isRegister prog_14_method_24_code 1 (some .boolean) 1 := ⟨⟨g_7_96, g_1_13, by decide, by decide, by decide +kernel⟩, g_7_95⟩
set_option maxHeartbeats 4000000 in
set_option maxRecDepth 100000 in
theorem c_Mo_isRegister (v0 : Int32) : MI y_Mo_isRegister rm_Mo_isRegister prog_14_method_24_code 1 .boolean (fun a => [.int v0]) (Mo_isRegister v0) := by
  refine mi_of (by decide) (fun _ => le_ rfl) ?_
  intro k res σ C hR hRm hnL h
  unfold Mo_isRegister at h
  show WW k 0 [(0, .int v0)] [] σ
  refine ww_iload_n C 0 rfl rfl (dq dk_Mo_isRegister 0 rfl) ?_
  refine ww_if_lt C 14 (dq dk_Mo_isRegister 1 rfl) (by decide) h (fun h => ?_) (fun h => ?_)
  · refine ww_iconst C (dq dk_Mo_isRegister 7 rfl) ic_0 ?_
    exact ww_zretL C hR (dq dk_Mo_isRegister 8 rfl) (Or.inl rfl) h
  · refine ww_iload_n C 0 rfl rfl (dq dk_Mo_isRegister 2 rfl) ?_
    refine ww_bipush C (dq dk_Mo_isRegister 3 rfl) bp_8 ?_
    refine ww_icmp_ge C 14 (dq dk_Mo_isRegister 4 rfl) (by decide) h (fun h => ?_) (fun h => ?_)
    · refine ww_iconst C (dq dk_Mo_isRegister 7 rfl) ic_0 ?_
      exact ww_zretL C hR (dq dk_Mo_isRegister 8 rfl) (Or.inl rfl) h
    · refine ww_iconst C (dq dk_Mo_isRegister 5 rfl) ic_1 ?_
      refine ww_goto C 15 (dq dk_Mo_isRegister 6 rfl) (by decide) ?_
      exact ww_zretL C hR (dq dk_Mo_isRegister 8 rfl) (Or.inr rfl) h
abbrev y_Mo_isMemoryX : MethodName := ⟨"BundleHouseModel", "isMemoryX", "(I)Z"⟩
def dl_Mo_isMemoryX : List (Nat × Instr × Nat) := [(0, .iload_n 0, 1), (1, .iconst 4, 1), (2, .ishr, 1), (3, .bipush 15, 2), (5, .iand, 1), (6, .istore_n 1, 1), (7, .iload_n 0, 1), (8, .bipush 8, 2), (10, .ishr, 1), (11, .istore_n 2, 1), (12, .iload_n 0, 1), (13, .ifCond .lt 42, 3), (16, .iload_n 0, 1), (17, .bipush 15, 2), (19, .iand, 1), (20, .bipush 8, 2), (22, .if_icmp .gt 33, 3), (25, .iload_n 1, 1), (26, .bipush 8, 2), (28, .if_icmp .gt 27, 3), (31, .iload_n 1, 1), (32, .iconst 4, 1), (33, .if_icmp .eq 22, 3), (36, .iload_n 2, 1), (37, .iconst 3, 1), (38, .if_icmp .gt 17, 3), (41, .iload_n 1, 1), (42, .bipush 8, 2), (44, .if_icmp .lt 7, 3), (47, .iload_n 2, 1), (48, .ifCond .ne 7, 3), (51, .iconst 1, 1), (52, .goto 4, 3), (55, .iconst 0, 1), (56, .ireturn, 1)]
set_option maxRecDepth 100000 in
theorem dk_Mo_isMemoryX : ∀ q ∈ dl_Mo_isMemoryX, decode prog_14_method_25_code q.1 = .ok q.2 := by decide +kernel
abbrev rm_Mo_isMemoryX : Room := { frames := 0, cells := 0, slots := 0, locals := 0 }
theorem cw_Mo_isMemoryX : CWS y_Mo_isMemoryX prog_14_method_25_code 3 (some .boolean) 1 := ⟨⟨g_7_102, g_1_13, by decide, by decide, by decide +kernel⟩, g_7_101⟩
set_option maxHeartbeats 4000000 in
set_option maxRecDepth 100000 in
theorem c_Mo_isMemoryX (v0 : Int32) : MI y_Mo_isMemoryX rm_Mo_isMemoryX prog_14_method_25_code 3 .boolean (fun a => [.int v0]) (Mo_isMemoryX v0) := by
  refine mi_of (by decide) (fun _ => le_ rfl) ?_
  intro k res σ C hR hRm hnL h
  unfold Mo_isMemoryX at h
  show WW k 0 [(0, .int v0)] [] σ
  refine ww_iload_n C 0 rfl rfl (dq dk_Mo_isMemoryX 0 rfl) ?_
  refine ww_iconst C (dq dk_Mo_isMemoryX 1 rfl) ic_4 ?_
  refine ww_ishr C (dq dk_Mo_isMemoryX 2 rfl) ?_
  refine ww_bipush C (dq dk_Mo_isMemoryX 3 rfl) bp_15 ?_
  refine ww_iand C (dq dk_Mo_isMemoryX 4 rfl) ?_
  refine ww_nmi h (fun x1 h => ?_)
  refine ww_istore_n C [(1, .int x1), (0, .int v0)] rfl hnL (lt_ rfl) rfl (dq dk_Mo_isMemoryX 5 rfl) ?_
  refine ww_iload_n C 1 rfl rfl (dq dk_Mo_isMemoryX 6 rfl) ?_
  refine ww_bipush C (dq dk_Mo_isMemoryX 7 rfl) bp_8 ?_
  refine ww_ishr C (dq dk_Mo_isMemoryX 8 rfl) ?_
  refine ww_nmi h (fun x2 h => ?_)
  refine ww_istore_n C [(2, .int x2), (1, .int x1), (0, .int v0)] rfl hnL (lt_ rfl) rfl (dq dk_Mo_isMemoryX 9 rfl) ?_
  refine ww_iload_n C 2 rfl rfl (dq dk_Mo_isMemoryX 10 rfl) ?_
  refine ww_if_lt C 55 (dq dk_Mo_isMemoryX 11 rfl) (by decide) h (fun h => ?_) (fun h => ?_)
  · refine ww_iconst C (dq dk_Mo_isMemoryX 33 rfl) ic_0 ?_
    exact ww_zretL C hR (dq dk_Mo_isMemoryX 34 rfl) (Or.inl rfl) h
  · refine ww_iload_n C 2 rfl rfl (dq dk_Mo_isMemoryX 12 rfl) ?_
    refine ww_bipush C (dq dk_Mo_isMemoryX 13 rfl) bp_15 ?_
    refine ww_iand C (dq dk_Mo_isMemoryX 14 rfl) ?_
    refine ww_bipush C (dq dk_Mo_isMemoryX 15 rfl) bp_8 ?_
    refine ww_icmp_gt C 55 (dq dk_Mo_isMemoryX 16 rfl) (by decide) h (fun h => ?_) (fun h => ?_)
    · refine ww_iconst C (dq dk_Mo_isMemoryX 33 rfl) ic_0 ?_
      exact ww_zretL C hR (dq dk_Mo_isMemoryX 34 rfl) (Or.inl rfl) h
    · refine ww_iload_n C 1 rfl rfl (dq dk_Mo_isMemoryX 17 rfl) ?_
      refine ww_bipush C (dq dk_Mo_isMemoryX 18 rfl) bp_8 ?_
      refine ww_icmp_gt C 55 (dq dk_Mo_isMemoryX 19 rfl) (by decide) h (fun h => ?_) (fun h => ?_)
      · refine ww_iconst C (dq dk_Mo_isMemoryX 33 rfl) ic_0 ?_
        exact ww_zretL C hR (dq dk_Mo_isMemoryX 34 rfl) (Or.inl rfl) h
      · refine ww_iload_n C 1 rfl rfl (dq dk_Mo_isMemoryX 20 rfl) ?_
        refine ww_iconst C (dq dk_Mo_isMemoryX 21 rfl) ic_4 ?_
        refine ww_icmp_eq C 55 (dq dk_Mo_isMemoryX 22 rfl) (by decide) h (fun h => ?_) (fun h => ?_)
        · refine ww_iconst C (dq dk_Mo_isMemoryX 33 rfl) ic_0 ?_
          exact ww_zretL C hR (dq dk_Mo_isMemoryX 34 rfl) (Or.inl rfl) h
        · refine ww_iload_n C 0 rfl rfl (dq dk_Mo_isMemoryX 23 rfl) ?_
          refine ww_iconst C (dq dk_Mo_isMemoryX 24 rfl) ic_3 ?_
          refine ww_icmp_gt C 55 (dq dk_Mo_isMemoryX 25 rfl) (by decide) h (fun h => ?_) (fun h => ?_)
          · refine ww_iconst C (dq dk_Mo_isMemoryX 33 rfl) ic_0 ?_
            exact ww_zretL C hR (dq dk_Mo_isMemoryX 34 rfl) (Or.inl rfl) h
          · refine ww_iload_n C 1 rfl rfl (dq dk_Mo_isMemoryX 26 rfl) ?_
            refine ww_bipush C (dq dk_Mo_isMemoryX 27 rfl) bp_8 ?_
            refine ww_icmp_lt C 51 (dq dk_Mo_isMemoryX 28 rfl) (by decide) h (fun h => ?_) (fun h => ?_)
            · refine ww_iconst C (dq dk_Mo_isMemoryX 31 rfl) ic_1 ?_
              refine ww_goto C 56 (dq dk_Mo_isMemoryX 32 rfl) (by decide) ?_
              exact ww_zretL C hR (dq dk_Mo_isMemoryX 34 rfl) (Or.inr rfl) h
            · refine ww_iload_n C 0 rfl rfl (dq dk_Mo_isMemoryX 29 rfl) ?_
              refine ww_if_ne C 55 (dq dk_Mo_isMemoryX 30 rfl) (by decide) h (fun h => ?_) (fun h => ?_)
              · refine ww_iconst C (dq dk_Mo_isMemoryX 33 rfl) ic_0 ?_
                exact ww_zretL C hR (dq dk_Mo_isMemoryX 34 rfl) (Or.inl rfl) h
              · refine ww_iconst C (dq dk_Mo_isMemoryX 31 rfl) ic_1 ?_
                refine ww_goto C 56 (dq dk_Mo_isMemoryX 32 rfl) (by decide) ?_
                exact ww_zretL C hR (dq dk_Mo_isMemoryX 34 rfl) (Or.inr rfl) h
abbrev y_Mo_hasForm : MethodName := ⟨"BundleHouseModel", "hasForm", "(II)Z"⟩
def dl_Mo_hasForm : List (Nat × Instr × Nat) := [(0, .iload_n 0, 1), (1, .ifCond .lt 9, 3), (4, .iload_n 0, 1), (5, .bipush 22, 2), (7, .if_icmp .le 5, 3), (10, .iconst 0, 1), (11, .ireturn, 1), (12, .iload_n 0, 1), (13, .bipush 8, 2), (15, .if_icmp .gt 20, 3), (18, .iload_n 1, 1), (19, .iconst 2, 1), (20, .if_icmp .lt 13, 3), (23, .iload_n 1, 1), (24, .bipush 6, 2), (26, .if_icmp .gt 7, 3), (29, .iconst 1, 1), (30, .goto 4, 3), (33, .iconst 0, 1), (34, .ireturn, 1), (35, .iload_n 0, 1), (36, .tableswitch 169 9 20 #[64, 80, 91, 107, 107, 124, 124, 124, 141, 141, 152, 141], 64), (100, .iload_n 1, 1), (101, .iconst 2, 1), (102, .if_icmp .eq 8, 3), (105, .iload_n 1, 1), (106, .iconst 4, 1), (107, .if_icmp .ne 7, 3), (110, .iconst 1, 1), (111, .goto 4, 3), (114, .iconst 0, 1), (115, .ireturn, 1), (116, .iload_n 1, 1), (117, .iconst 3, 1), (118, .if_icmp .ne 7, 3), (121, .iconst 1, 1), (122, .goto 4, 3), (125, .iconst 0, 1), (126, .ireturn, 1), (127, .iload_n 1, 1), (128, .iconst 2, 1), (129, .if_icmp .eq 8, 3), (132, .iload_n 1, 1), (133, .iconst 3, 1), (134, .if_icmp .ne 7, 3), (137, .iconst 1, 1), (138, .goto 4, 3), (141, .iconst 0, 1), (142, .ireturn, 1), (143, .iload_n 1, 1), (144, .iconst 1, 1), (145, .if_icmp .eq 9, 3), (148, .iload_n 1, 1), (149, .bipush 7, 2), (151, .if_icmp .ne 7, 3), (154, .iconst 1, 1), (155, .goto 4, 3), (158, .iconst 0, 1), (159, .ireturn, 1), (160, .iload_n 1, 1), (161, .iconst 5, 1), (162, .if_icmp .eq 9, 3), (165, .iload_n 1, 1), (166, .bipush 6, 2), (168, .if_icmp .ne 7, 3), (171, .iconst 1, 1), (172, .goto 4, 3), (175, .iconst 0, 1), (176, .ireturn, 1), (177, .iload_n 1, 1), (178, .iconst 1, 1), (179, .if_icmp .ne 7, 3), (182, .iconst 1, 1), (183, .goto 4, 3), (186, .iconst 0, 1), (187, .ireturn, 1), (188, .iload_n 1, 1), (189, .iconst 1, 1), (190, .if_icmp .eq 9, 3), (193, .iload_n 1, 1), (194, .bipush 8, 2), (196, .if_icmp .ne 7, 3), (199, .iconst 1, 1), (200, .goto 4, 3), (203, .iconst 0, 1), (204, .ireturn, 1), (205, .iload_n 1, 1), (206, .ifCond .ne 7, 3), (209, .iconst 1, 1), (210, .goto 4, 3), (213, .iconst 0, 1), (214, .ireturn, 1)]
set_option maxRecDepth 100000 in
theorem dk_Mo_hasForm : ∀ q ∈ dl_Mo_hasForm, decode prog_14_method_26_code q.1 = .ok q.2 := by decide +kernel
abbrev rm_Mo_hasForm : Room := { frames := 0, cells := 0, slots := 0, locals := 0 }
theorem cw_Mo_hasForm : CWS y_Mo_hasForm prog_14_method_26_code 2 (some .boolean) 2 := ⟨⟨g_7_90, g_1_13, by decide, by decide, by decide +kernel⟩, g_7_89⟩
set_option maxHeartbeats 4000000 in
set_option maxRecDepth 100000 in
theorem c_Mo_hasForm (v0 : Int32) (v1 : Int32) : MI y_Mo_hasForm rm_Mo_hasForm prog_14_method_26_code 2 .boolean (fun a => [.int v0, .int v1]) (Mo_hasForm v0 v1) := by
  refine mi_of (by decide) (fun _ => le_ rfl) ?_
  intro k res σ C hR hRm hnL h
  unfold Mo_hasForm at h
  show WW k 0 [(0, .int v0), (1, .int v1)] [] σ
  refine ww_iload_n C 0 rfl rfl (dq dk_Mo_hasForm 0 rfl) ?_
  refine ww_if_lt C 10 (dq dk_Mo_hasForm 1 rfl) (by decide) h (fun h => ?_) (fun h => ?_)
  · refine ww_iconst C (dq dk_Mo_hasForm 5 rfl) ic_0 ?_
    exact ww_zretL C hR (dq dk_Mo_hasForm 6 rfl) (Or.inl rfl) h
  · refine ww_iload_n C 0 rfl rfl (dq dk_Mo_hasForm 2 rfl) ?_
    refine ww_bipush C (dq dk_Mo_hasForm 3 rfl) bp_22 ?_
    refine ww_icmp_le C 12 (dq dk_Mo_hasForm 4 rfl) (by decide) h (fun h => ?_) (fun h => ?_)
    · refine ww_iload_n C 0 rfl rfl (dq dk_Mo_hasForm 7 rfl) ?_
      refine ww_bipush C (dq dk_Mo_hasForm 8 rfl) bp_8 ?_
      refine ww_icmp_gt C 35 (dq dk_Mo_hasForm 9 rfl) (by decide) h (fun h => ?_) (fun h => ?_)
      · refine ww_iload_n C 0 rfl rfl (dq dk_Mo_hasForm 20 rfl) ?_
        by_cases e0_9 : v0 = 9
        · rw [if_pos e0_9] at h
          refine ww_tabIn C 100 (dq dk_Mo_hasForm 21 rfl) (by rw [e0_9]; decide) (by rw [e0_9]; decide) (by rw [e0_9]; rfl) (by decide) ?_
          refine ww_iload_n C 1 rfl rfl (dq dk_Mo_hasForm 22 rfl) ?_
          refine ww_iconst C (dq dk_Mo_hasForm 23 rfl) ic_2 ?_
          refine ww_icmp_eq C 110 (dq dk_Mo_hasForm 24 rfl) (by decide) h (fun h => ?_) (fun h => ?_)
          · refine ww_iconst C (dq dk_Mo_hasForm 28 rfl) ic_1 ?_
            refine ww_goto C 115 (dq dk_Mo_hasForm 29 rfl) (by decide) ?_
            exact ww_zretL C hR (dq dk_Mo_hasForm 31 rfl) (Or.inr rfl) h
          · refine ww_iload_n C 1 rfl rfl (dq dk_Mo_hasForm 25 rfl) ?_
            refine ww_iconst C (dq dk_Mo_hasForm 26 rfl) ic_4 ?_
            refine ww_icmp_ne C 114 (dq dk_Mo_hasForm 27 rfl) (by decide) h (fun h => ?_) (fun h => ?_)
            · refine ww_iconst C (dq dk_Mo_hasForm 30 rfl) ic_0 ?_
              exact ww_zretL C hR (dq dk_Mo_hasForm 31 rfl) (Or.inl rfl) h
            · refine ww_iconst C (dq dk_Mo_hasForm 28 rfl) ic_1 ?_
              refine ww_goto C 115 (dq dk_Mo_hasForm 29 rfl) (by decide) ?_
              exact ww_zretL C hR (dq dk_Mo_hasForm 31 rfl) (Or.inr rfl) h
        rw [if_neg e0_9] at h
        by_cases e1_10 : v0 = 10
        · rw [if_pos e1_10] at h
          refine ww_tabIn C 116 (dq dk_Mo_hasForm 21 rfl) (by rw [e1_10]; decide) (by rw [e1_10]; decide) (by rw [e1_10]; rfl) (by decide) ?_
          refine ww_iload_n C 1 rfl rfl (dq dk_Mo_hasForm 32 rfl) ?_
          refine ww_iconst C (dq dk_Mo_hasForm 33 rfl) ic_3 ?_
          refine ww_icmp_ne C 125 (dq dk_Mo_hasForm 34 rfl) (by decide) h (fun h => ?_) (fun h => ?_)
          · refine ww_iconst C (dq dk_Mo_hasForm 37 rfl) ic_0 ?_
            exact ww_zretL C hR (dq dk_Mo_hasForm 38 rfl) (Or.inl rfl) h
          · refine ww_iconst C (dq dk_Mo_hasForm 35 rfl) ic_1 ?_
            refine ww_goto C 126 (dq dk_Mo_hasForm 36 rfl) (by decide) ?_
            exact ww_zretL C hR (dq dk_Mo_hasForm 38 rfl) (Or.inr rfl) h
        rw [if_neg e1_10] at h
        by_cases e2_11 : v0 = 11
        · rw [if_pos e2_11] at h
          refine ww_tabIn C 127 (dq dk_Mo_hasForm 21 rfl) (by rw [e2_11]; decide) (by rw [e2_11]; decide) (by rw [e2_11]; rfl) (by decide) ?_
          refine ww_iload_n C 1 rfl rfl (dq dk_Mo_hasForm 39 rfl) ?_
          refine ww_iconst C (dq dk_Mo_hasForm 40 rfl) ic_2 ?_
          refine ww_icmp_eq C 137 (dq dk_Mo_hasForm 41 rfl) (by decide) h (fun h => ?_) (fun h => ?_)
          · refine ww_iconst C (dq dk_Mo_hasForm 45 rfl) ic_1 ?_
            refine ww_goto C 142 (dq dk_Mo_hasForm 46 rfl) (by decide) ?_
            exact ww_zretL C hR (dq dk_Mo_hasForm 48 rfl) (Or.inr rfl) h
          · refine ww_iload_n C 1 rfl rfl (dq dk_Mo_hasForm 42 rfl) ?_
            refine ww_iconst C (dq dk_Mo_hasForm 43 rfl) ic_3 ?_
            refine ww_icmp_ne C 141 (dq dk_Mo_hasForm 44 rfl) (by decide) h (fun h => ?_) (fun h => ?_)
            · refine ww_iconst C (dq dk_Mo_hasForm 47 rfl) ic_0 ?_
              exact ww_zretL C hR (dq dk_Mo_hasForm 48 rfl) (Or.inl rfl) h
            · refine ww_iconst C (dq dk_Mo_hasForm 45 rfl) ic_1 ?_
              refine ww_goto C 142 (dq dk_Mo_hasForm 46 rfl) (by decide) ?_
              exact ww_zretL C hR (dq dk_Mo_hasForm 48 rfl) (Or.inr rfl) h
        rw [if_neg e2_11] at h
        by_cases e3_12 : v0 = 12
        · rw [if_pos e3_12] at h
          refine ww_tabIn C 143 (dq dk_Mo_hasForm 21 rfl) (by rw [e3_12]; decide) (by rw [e3_12]; decide) (by rw [e3_12]; rfl) (by decide) ?_
          refine ww_iload_n C 1 rfl rfl (dq dk_Mo_hasForm 49 rfl) ?_
          refine ww_iconst C (dq dk_Mo_hasForm 50 rfl) ic_1 ?_
          refine ww_icmp_eq C 154 (dq dk_Mo_hasForm 51 rfl) (by decide) h (fun h => ?_) (fun h => ?_)
          · refine ww_iconst C (dq dk_Mo_hasForm 55 rfl) ic_1 ?_
            refine ww_goto C 159 (dq dk_Mo_hasForm 56 rfl) (by decide) ?_
            exact ww_zretL C hR (dq dk_Mo_hasForm 58 rfl) (Or.inr rfl) h
          · refine ww_iload_n C 1 rfl rfl (dq dk_Mo_hasForm 52 rfl) ?_
            refine ww_bipush C (dq dk_Mo_hasForm 53 rfl) bp_7 ?_
            refine ww_icmp_ne C 158 (dq dk_Mo_hasForm 54 rfl) (by decide) h (fun h => ?_) (fun h => ?_)
            · refine ww_iconst C (dq dk_Mo_hasForm 57 rfl) ic_0 ?_
              exact ww_zretL C hR (dq dk_Mo_hasForm 58 rfl) (Or.inl rfl) h
            · refine ww_iconst C (dq dk_Mo_hasForm 55 rfl) ic_1 ?_
              refine ww_goto C 159 (dq dk_Mo_hasForm 56 rfl) (by decide) ?_
              exact ww_zretL C hR (dq dk_Mo_hasForm 58 rfl) (Or.inr rfl) h
        rw [if_neg e3_12] at h
        by_cases e4_13 : v0 = 13
        · rw [if_pos e4_13] at h
          refine ww_tabIn C 143 (dq dk_Mo_hasForm 21 rfl) (by rw [e4_13]; decide) (by rw [e4_13]; decide) (by rw [e4_13]; rfl) (by decide) ?_
          refine ww_iload_n C 1 rfl rfl (dq dk_Mo_hasForm 49 rfl) ?_
          refine ww_iconst C (dq dk_Mo_hasForm 50 rfl) ic_1 ?_
          refine ww_icmp_eq C 154 (dq dk_Mo_hasForm 51 rfl) (by decide) h (fun h => ?_) (fun h => ?_)
          · refine ww_iconst C (dq dk_Mo_hasForm 55 rfl) ic_1 ?_
            refine ww_goto C 159 (dq dk_Mo_hasForm 56 rfl) (by decide) ?_
            exact ww_zretL C hR (dq dk_Mo_hasForm 58 rfl) (Or.inr rfl) h
          · refine ww_iload_n C 1 rfl rfl (dq dk_Mo_hasForm 52 rfl) ?_
            refine ww_bipush C (dq dk_Mo_hasForm 53 rfl) bp_7 ?_
            refine ww_icmp_ne C 158 (dq dk_Mo_hasForm 54 rfl) (by decide) h (fun h => ?_) (fun h => ?_)
            · refine ww_iconst C (dq dk_Mo_hasForm 57 rfl) ic_0 ?_
              exact ww_zretL C hR (dq dk_Mo_hasForm 58 rfl) (Or.inl rfl) h
            · refine ww_iconst C (dq dk_Mo_hasForm 55 rfl) ic_1 ?_
              refine ww_goto C 159 (dq dk_Mo_hasForm 56 rfl) (by decide) ?_
              exact ww_zretL C hR (dq dk_Mo_hasForm 58 rfl) (Or.inr rfl) h
        rw [if_neg e4_13] at h
        by_cases e5_14 : v0 = 14
        · rw [if_pos e5_14] at h
          refine ww_tabIn C 160 (dq dk_Mo_hasForm 21 rfl) (by rw [e5_14]; decide) (by rw [e5_14]; decide) (by rw [e5_14]; rfl) (by decide) ?_
          refine ww_iload_n C 1 rfl rfl (dq dk_Mo_hasForm 59 rfl) ?_
          refine ww_iconst C (dq dk_Mo_hasForm 60 rfl) ic_5 ?_
          refine ww_icmp_eq C 171 (dq dk_Mo_hasForm 61 rfl) (by decide) h (fun h => ?_) (fun h => ?_)
          · refine ww_iconst C (dq dk_Mo_hasForm 65 rfl) ic_1 ?_
            refine ww_goto C 176 (dq dk_Mo_hasForm 66 rfl) (by decide) ?_
            exact ww_zretL C hR (dq dk_Mo_hasForm 68 rfl) (Or.inr rfl) h
          · refine ww_iload_n C 1 rfl rfl (dq dk_Mo_hasForm 62 rfl) ?_
            refine ww_bipush C (dq dk_Mo_hasForm 63 rfl) bp_6 ?_
            refine ww_icmp_ne C 175 (dq dk_Mo_hasForm 64 rfl) (by decide) h (fun h => ?_) (fun h => ?_)
            · refine ww_iconst C (dq dk_Mo_hasForm 67 rfl) ic_0 ?_
              exact ww_zretL C hR (dq dk_Mo_hasForm 68 rfl) (Or.inl rfl) h
            · refine ww_iconst C (dq dk_Mo_hasForm 65 rfl) ic_1 ?_
              refine ww_goto C 176 (dq dk_Mo_hasForm 66 rfl) (by decide) ?_
              exact ww_zretL C hR (dq dk_Mo_hasForm 68 rfl) (Or.inr rfl) h
        rw [if_neg e5_14] at h
        by_cases e6_15 : v0 = 15
        · rw [if_pos e6_15] at h
          refine ww_tabIn C 160 (dq dk_Mo_hasForm 21 rfl) (by rw [e6_15]; decide) (by rw [e6_15]; decide) (by rw [e6_15]; rfl) (by decide) ?_
          refine ww_iload_n C 1 rfl rfl (dq dk_Mo_hasForm 59 rfl) ?_
          refine ww_iconst C (dq dk_Mo_hasForm 60 rfl) ic_5 ?_
          refine ww_icmp_eq C 171 (dq dk_Mo_hasForm 61 rfl) (by decide) h (fun h => ?_) (fun h => ?_)
          · refine ww_iconst C (dq dk_Mo_hasForm 65 rfl) ic_1 ?_
            refine ww_goto C 176 (dq dk_Mo_hasForm 66 rfl) (by decide) ?_
            exact ww_zretL C hR (dq dk_Mo_hasForm 68 rfl) (Or.inr rfl) h
          · refine ww_iload_n C 1 rfl rfl (dq dk_Mo_hasForm 62 rfl) ?_
            refine ww_bipush C (dq dk_Mo_hasForm 63 rfl) bp_6 ?_
            refine ww_icmp_ne C 175 (dq dk_Mo_hasForm 64 rfl) (by decide) h (fun h => ?_) (fun h => ?_)
            · refine ww_iconst C (dq dk_Mo_hasForm 67 rfl) ic_0 ?_
              exact ww_zretL C hR (dq dk_Mo_hasForm 68 rfl) (Or.inl rfl) h
            · refine ww_iconst C (dq dk_Mo_hasForm 65 rfl) ic_1 ?_
              refine ww_goto C 176 (dq dk_Mo_hasForm 66 rfl) (by decide) ?_
              exact ww_zretL C hR (dq dk_Mo_hasForm 68 rfl) (Or.inr rfl) h
        rw [if_neg e6_15] at h
        by_cases e7_16 : v0 = 16
        · rw [if_pos e7_16] at h
          refine ww_tabIn C 160 (dq dk_Mo_hasForm 21 rfl) (by rw [e7_16]; decide) (by rw [e7_16]; decide) (by rw [e7_16]; rfl) (by decide) ?_
          refine ww_iload_n C 1 rfl rfl (dq dk_Mo_hasForm 59 rfl) ?_
          refine ww_iconst C (dq dk_Mo_hasForm 60 rfl) ic_5 ?_
          refine ww_icmp_eq C 171 (dq dk_Mo_hasForm 61 rfl) (by decide) h (fun h => ?_) (fun h => ?_)
          · refine ww_iconst C (dq dk_Mo_hasForm 65 rfl) ic_1 ?_
            refine ww_goto C 176 (dq dk_Mo_hasForm 66 rfl) (by decide) ?_
            exact ww_zretL C hR (dq dk_Mo_hasForm 68 rfl) (Or.inr rfl) h
          · refine ww_iload_n C 1 rfl rfl (dq dk_Mo_hasForm 62 rfl) ?_
            refine ww_bipush C (dq dk_Mo_hasForm 63 rfl) bp_6 ?_
            refine ww_icmp_ne C 175 (dq dk_Mo_hasForm 64 rfl) (by decide) h (fun h => ?_) (fun h => ?_)
            · refine ww_iconst C (dq dk_Mo_hasForm 67 rfl) ic_0 ?_
              exact ww_zretL C hR (dq dk_Mo_hasForm 68 rfl) (Or.inl rfl) h
            · refine ww_iconst C (dq dk_Mo_hasForm 65 rfl) ic_1 ?_
              refine ww_goto C 176 (dq dk_Mo_hasForm 66 rfl) (by decide) ?_
              exact ww_zretL C hR (dq dk_Mo_hasForm 68 rfl) (Or.inr rfl) h
        rw [if_neg e7_16] at h
        by_cases e8_17 : v0 = 17
        · rw [if_pos e8_17] at h
          refine ww_tabIn C 177 (dq dk_Mo_hasForm 21 rfl) (by rw [e8_17]; decide) (by rw [e8_17]; decide) (by rw [e8_17]; rfl) (by decide) ?_
          refine ww_iload_n C 1 rfl rfl (dq dk_Mo_hasForm 69 rfl) ?_
          refine ww_iconst C (dq dk_Mo_hasForm 70 rfl) ic_1 ?_
          refine ww_icmp_ne C 186 (dq dk_Mo_hasForm 71 rfl) (by decide) h (fun h => ?_) (fun h => ?_)
          · refine ww_iconst C (dq dk_Mo_hasForm 74 rfl) ic_0 ?_
            exact ww_zretL C hR (dq dk_Mo_hasForm 75 rfl) (Or.inl rfl) h
          · refine ww_iconst C (dq dk_Mo_hasForm 72 rfl) ic_1 ?_
            refine ww_goto C 187 (dq dk_Mo_hasForm 73 rfl) (by decide) ?_
            exact ww_zretL C hR (dq dk_Mo_hasForm 75 rfl) (Or.inr rfl) h
        rw [if_neg e8_17] at h
        by_cases e9_18 : v0 = 18
        · rw [if_pos e9_18] at h
          refine ww_tabIn C 177 (dq dk_Mo_hasForm 21 rfl) (by rw [e9_18]; decide) (by rw [e9_18]; decide) (by rw [e9_18]; rfl) (by decide) ?_
          refine ww_iload_n C 1 rfl rfl (dq dk_Mo_hasForm 69 rfl) ?_
          refine ww_iconst C (dq dk_Mo_hasForm 70 rfl) ic_1 ?_
          refine ww_icmp_ne C 186 (dq dk_Mo_hasForm 71 rfl) (by decide) h (fun h => ?_) (fun h => ?_)
          · refine ww_iconst C (dq dk_Mo_hasForm 74 rfl) ic_0 ?_
            exact ww_zretL C hR (dq dk_Mo_hasForm 75 rfl) (Or.inl rfl) h
          · refine ww_iconst C (dq dk_Mo_hasForm 72 rfl) ic_1 ?_
            refine ww_goto C 187 (dq dk_Mo_hasForm 73 rfl) (by decide) ?_
            exact ww_zretL C hR (dq dk_Mo_hasForm 75 rfl) (Or.inr rfl) h
        rw [if_neg e9_18] at h
        by_cases e10_19 : v0 = 19
        · rw [if_pos e10_19] at h
          refine ww_tabIn C 188 (dq dk_Mo_hasForm 21 rfl) (by rw [e10_19]; decide) (by rw [e10_19]; decide) (by rw [e10_19]; rfl) (by decide) ?_
          refine ww_iload_n C 1 rfl rfl (dq dk_Mo_hasForm 76 rfl) ?_
          refine ww_iconst C (dq dk_Mo_hasForm 77 rfl) ic_1 ?_
          refine ww_icmp_eq C 199 (dq dk_Mo_hasForm 78 rfl) (by decide) h (fun h => ?_) (fun h => ?_)
          · refine ww_iconst C (dq dk_Mo_hasForm 82 rfl) ic_1 ?_
            refine ww_goto C 204 (dq dk_Mo_hasForm 83 rfl) (by decide) ?_
            exact ww_zretL C hR (dq dk_Mo_hasForm 85 rfl) (Or.inr rfl) h
          · refine ww_iload_n C 1 rfl rfl (dq dk_Mo_hasForm 79 rfl) ?_
            refine ww_bipush C (dq dk_Mo_hasForm 80 rfl) bp_8 ?_
            refine ww_icmp_ne C 203 (dq dk_Mo_hasForm 81 rfl) (by decide) h (fun h => ?_) (fun h => ?_)
            · refine ww_iconst C (dq dk_Mo_hasForm 84 rfl) ic_0 ?_
              exact ww_zretL C hR (dq dk_Mo_hasForm 85 rfl) (Or.inl rfl) h
            · refine ww_iconst C (dq dk_Mo_hasForm 82 rfl) ic_1 ?_
              refine ww_goto C 204 (dq dk_Mo_hasForm 83 rfl) (by decide) ?_
              exact ww_zretL C hR (dq dk_Mo_hasForm 85 rfl) (Or.inr rfl) h
        rw [if_neg e10_19] at h
        by_cases e11_20 : v0 = 20
        · rw [if_pos e11_20] at h
          refine ww_tabIn C 177 (dq dk_Mo_hasForm 21 rfl) (by rw [e11_20]; decide) (by rw [e11_20]; decide) (by rw [e11_20]; rfl) (by decide) ?_
          refine ww_iload_n C 1 rfl rfl (dq dk_Mo_hasForm 69 rfl) ?_
          refine ww_iconst C (dq dk_Mo_hasForm 70 rfl) ic_1 ?_
          refine ww_icmp_ne C 186 (dq dk_Mo_hasForm 71 rfl) (by decide) h (fun h => ?_) (fun h => ?_)
          · refine ww_iconst C (dq dk_Mo_hasForm 74 rfl) ic_0 ?_
            exact ww_zretL C hR (dq dk_Mo_hasForm 75 rfl) (Or.inl rfl) h
          · refine ww_iconst C (dq dk_Mo_hasForm 72 rfl) ic_1 ?_
            refine ww_goto C 187 (dq dk_Mo_hasForm 73 rfl) (by decide) ?_
            exact ww_zretL C hR (dq dk_Mo_hasForm 75 rfl) (Or.inr rfl) h
        rw [if_neg e11_20] at h
        have ne0_9 := lv_neT (a := 9) e0_9 (by decide)
        have ne1_10 := lv_neT (a := 10) e1_10 (by decide)
        have ne2_11 := lv_neT (a := 11) e2_11 (by decide)
        have ne3_12 := lv_neT (a := 12) e3_12 (by decide)
        have ne4_13 := lv_neT (a := 13) e4_13 (by decide)
        have ne5_14 := lv_neT (a := 14) e5_14 (by decide)
        have ne6_15 := lv_neT (a := 15) e6_15 (by decide)
        have ne7_16 := lv_neT (a := 16) e7_16 (by decide)
        have ne8_17 := lv_neT (a := 17) e8_17 (by decide)
        have ne9_18 := lv_neT (a := 18) e9_18 (by decide)
        have ne10_19 := lv_neT (a := 19) e10_19 (by decide)
        have ne11_20 := lv_neT (a := 20) e11_20 (by decide)
        refine ww_tabOut C 205 (dq dk_Mo_hasForm 21 rfl) (by omega) (by decide) ?_
        refine ww_iload_n C 1 rfl rfl (dq dk_Mo_hasForm 86 rfl) ?_
        refine ww_if_ne C 213 (dq dk_Mo_hasForm 87 rfl) (by decide) h (fun h => ?_) (fun h => ?_)
        · refine ww_iconst C (dq dk_Mo_hasForm 90 rfl) ic_0 ?_
          exact ww_zretL C hR (dq dk_Mo_hasForm 91 rfl) (Or.inl rfl) h
        · refine ww_iconst C (dq dk_Mo_hasForm 88 rfl) ic_1 ?_
          refine ww_goto C 214 (dq dk_Mo_hasForm 89 rfl) (by decide) ?_
          exact ww_zretL C hR (dq dk_Mo_hasForm 91 rfl) (Or.inr rfl) h
      · refine ww_iload_n C 1 rfl rfl (dq dk_Mo_hasForm 10 rfl) ?_
        refine ww_iconst C (dq dk_Mo_hasForm 11 rfl) ic_2 ?_
        refine ww_icmp_lt C 33 (dq dk_Mo_hasForm 12 rfl) (by decide) h (fun h => ?_) (fun h => ?_)
        · refine ww_iconst C (dq dk_Mo_hasForm 18 rfl) ic_0 ?_
          exact ww_zretL C hR (dq dk_Mo_hasForm 19 rfl) (Or.inl rfl) h
        · refine ww_iload_n C 1 rfl rfl (dq dk_Mo_hasForm 13 rfl) ?_
          refine ww_bipush C (dq dk_Mo_hasForm 14 rfl) bp_6 ?_
          refine ww_icmp_gt C 33 (dq dk_Mo_hasForm 15 rfl) (by decide) h (fun h => ?_) (fun h => ?_)
          · refine ww_iconst C (dq dk_Mo_hasForm 18 rfl) ic_0 ?_
            exact ww_zretL C hR (dq dk_Mo_hasForm 19 rfl) (Or.inl rfl) h
          · refine ww_iconst C (dq dk_Mo_hasForm 16 rfl) ic_1 ?_
            refine ww_goto C 34 (dq dk_Mo_hasForm 17 rfl) (by decide) ?_
            exact ww_zretL C hR (dq dk_Mo_hasForm 19 rfl) (Or.inr rfl) h
    · refine ww_iconst C (dq dk_Mo_hasForm 5 rfl) ic_0 ?_
      exact ww_zretL C hR (dq dk_Mo_hasForm 6 rfl) (Or.inl rfl) h
abbrev y_Mo_formHasR : MethodName := ⟨"BundleHouseModel", "formHasR", "(I)Z"⟩
def dl_Mo_formHasR : List (Nat × Instr × Nat) := [(0, .iload_n 0, 1), (1, .iconst 1, 1), (2, .if_icmp .lt 12, 3), (5, .iload_n 0, 1), (6, .iconst 5, 1), (7, .if_icmp .gt 7, 3), (10, .iconst 1, 1), (11, .goto 4, 3), (14, .iconst 0, 1), (15, .ireturn, 1)]
set_option maxRecDepth 100000 in
theorem dk_Mo_formHasR : ∀ q ∈ dl_Mo_formHasR, decode prog_14_method_27_code q.1 = .ok q.2 := by decide +kernel
abbrev rm_Mo_formHasR : Room := { frames := 0, cells := 0, slots := 0, locals := 0 }
theorem cw_Mo_formHasR : CWS y_Mo_formHasR prog_14_method_27_code 1 (some .boolean) 1 := ⟨⟨g_7_93, g_1_13, by decide, by decide, by decide +kernel⟩, g_7_92⟩
set_option maxHeartbeats 4000000 in
set_option maxRecDepth 100000 in
theorem c_Mo_formHasR (v0 : Int32) : MI y_Mo_formHasR rm_Mo_formHasR prog_14_method_27_code 1 .boolean (fun a => [.int v0]) (Mo_formHasR v0) := by
  refine mi_of (by decide) (fun _ => le_ rfl) ?_
  intro k res σ C hR hRm hnL h
  unfold Mo_formHasR at h
  show WW k 0 [(0, .int v0)] [] σ
  refine ww_iload_n C 0 rfl rfl (dq dk_Mo_formHasR 0 rfl) ?_
  refine ww_iconst C (dq dk_Mo_formHasR 1 rfl) ic_1 ?_
  refine ww_icmp_lt C 14 (dq dk_Mo_formHasR 2 rfl) (by decide) h (fun h => ?_) (fun h => ?_)
  · refine ww_iconst C (dq dk_Mo_formHasR 8 rfl) ic_0 ?_
    exact ww_zretL C hR (dq dk_Mo_formHasR 9 rfl) (Or.inl rfl) h
  · refine ww_iload_n C 0 rfl rfl (dq dk_Mo_formHasR 3 rfl) ?_
    refine ww_iconst C (dq dk_Mo_formHasR 4 rfl) ic_5 ?_
    refine ww_icmp_gt C 14 (dq dk_Mo_formHasR 5 rfl) (by decide) h (fun h => ?_) (fun h => ?_)
    · refine ww_iconst C (dq dk_Mo_formHasR 8 rfl) ic_0 ?_
      exact ww_zretL C hR (dq dk_Mo_formHasR 9 rfl) (Or.inl rfl) h
    · refine ww_iconst C (dq dk_Mo_formHasR 6 rfl) ic_1 ?_
      refine ww_goto C 15 (dq dk_Mo_formHasR 7 rfl) (by decide) ?_
      exact ww_zretL C hR (dq dk_Mo_formHasR 9 rfl) (Or.inr rfl) h
abbrev y_Mo_formHasMemory : MethodName := ⟨"BundleHouseModel", "formHasMemory", "(I)Z"⟩
def dl_Mo_formHasMemory : List (Nat × Instr × Nat) := [(0, .iload_n 0, 1), (1, .iconst 3, 1), (2, .if_icmp .eq 20, 3), (5, .iload_n 0, 1), (6, .iconst 4, 1), (7, .if_icmp .eq 15, 3), (10, .iload_n 0, 1), (11, .bipush 6, 2), (13, .if_icmp .eq 9, 3), (16, .iload_n 0, 1), (17, .bipush 7, 2), (19, .if_icmp .ne 7, 3), (22, .iconst 1, 1), (23, .goto 4, 3), (26, .iconst 0, 1), (27, .ireturn, 1)]
set_option maxRecDepth 100000 in
theorem dk_Mo_formHasMemory : ∀ q ∈ dl_Mo_formHasMemory, decode prog_14_method_28_code q.1 = .ok q.2 := by decide +kernel
abbrev rm_Mo_formHasMemory : Room := { frames := 0, cells := 0, slots := 0, locals := 0 }
theorem cw_Mo_formHasMemory : CWS y_Mo_formHasMemory prog_14_method_28_code 1 (some .boolean) 1 := ⟨⟨g_7_99, g_1_13, by decide, by decide, by decide +kernel⟩, g_7_98⟩
set_option maxHeartbeats 4000000 in
set_option maxRecDepth 100000 in
theorem c_Mo_formHasMemory (v0 : Int32) : MI y_Mo_formHasMemory rm_Mo_formHasMemory prog_14_method_28_code 1 .boolean (fun a => [.int v0]) (Mo_formHasMemory v0) := by
  refine mi_of (by decide) (fun _ => le_ rfl) ?_
  intro k res σ C hR hRm hnL h
  unfold Mo_formHasMemory at h
  show WW k 0 [(0, .int v0)] [] σ
  refine ww_iload_n C 0 rfl rfl (dq dk_Mo_formHasMemory 0 rfl) ?_
  refine ww_iconst C (dq dk_Mo_formHasMemory 1 rfl) ic_3 ?_
  refine ww_icmp_eq C 22 (dq dk_Mo_formHasMemory 2 rfl) (by decide) h (fun h => ?_) (fun h => ?_)
  · refine ww_iconst C (dq dk_Mo_formHasMemory 12 rfl) ic_1 ?_
    refine ww_goto C 27 (dq dk_Mo_formHasMemory 13 rfl) (by decide) ?_
    exact ww_zretL C hR (dq dk_Mo_formHasMemory 15 rfl) (Or.inr rfl) h
  · refine ww_iload_n C 0 rfl rfl (dq dk_Mo_formHasMemory 3 rfl) ?_
    refine ww_iconst C (dq dk_Mo_formHasMemory 4 rfl) ic_4 ?_
    refine ww_icmp_eq C 22 (dq dk_Mo_formHasMemory 5 rfl) (by decide) h (fun h => ?_) (fun h => ?_)
    · refine ww_iconst C (dq dk_Mo_formHasMemory 12 rfl) ic_1 ?_
      refine ww_goto C 27 (dq dk_Mo_formHasMemory 13 rfl) (by decide) ?_
      exact ww_zretL C hR (dq dk_Mo_formHasMemory 15 rfl) (Or.inr rfl) h
    · refine ww_iload_n C 0 rfl rfl (dq dk_Mo_formHasMemory 6 rfl) ?_
      refine ww_bipush C (dq dk_Mo_formHasMemory 7 rfl) bp_6 ?_
      refine ww_icmp_eq C 22 (dq dk_Mo_formHasMemory 8 rfl) (by decide) h (fun h => ?_) (fun h => ?_)
      · refine ww_iconst C (dq dk_Mo_formHasMemory 12 rfl) ic_1 ?_
        refine ww_goto C 27 (dq dk_Mo_formHasMemory 13 rfl) (by decide) ?_
        exact ww_zretL C hR (dq dk_Mo_formHasMemory 15 rfl) (Or.inr rfl) h
      · refine ww_iload_n C 0 rfl rfl (dq dk_Mo_formHasMemory 9 rfl) ?_
        refine ww_bipush C (dq dk_Mo_formHasMemory 10 rfl) bp_7 ?_
        refine ww_icmp_ne C 26 (dq dk_Mo_formHasMemory 11 rfl) (by decide) h (fun h => ?_) (fun h => ?_)
        · refine ww_iconst C (dq dk_Mo_formHasMemory 14 rfl) ic_0 ?_
          exact ww_zretL C hR (dq dk_Mo_formHasMemory 15 rfl) (Or.inl rfl) h
        · refine ww_iconst C (dq dk_Mo_formHasMemory 12 rfl) ic_1 ?_
          refine ww_goto C 27 (dq dk_Mo_formHasMemory 13 rfl) (by decide) ?_
          exact ww_zretL C hR (dq dk_Mo_formHasMemory 15 rfl) (Or.inr rfl) h
abbrev y_Mo_formHasI : MethodName := ⟨"BundleHouseModel", "formHasI", "(I)Z"⟩
def dl_Mo_formHasI : List (Nat × Instr × Nat) := [(0, .iload_n 0, 1), (1, .iconst 5, 1), (2, .if_icmp .eq 15, 3), (5, .iload_n 0, 1), (6, .bipush 6, 2), (8, .if_icmp .eq 9, 3), (11, .iload_n 0, 1), (12, .bipush 8, 2), (14, .if_icmp .ne 7, 3), (17, .iconst 1, 1), (18, .goto 4, 3), (21, .iconst 0, 1), (22, .ireturn, 1)]
set_option maxRecDepth 100000 in
theorem dk_Mo_formHasI : ∀ q ∈ dl_Mo_formHasI, decode prog_14_method_29_code q.1 = .ok q.2 := by decide +kernel
abbrev rm_Mo_formHasI : Room := { frames := 0, cells := 0, slots := 0, locals := 0 }
theorem cw_Mo_formHasI : CWS y_Mo_formHasI prog_14_method_29_code 1 (some .boolean) 1 := ⟨⟨g_7_105, g_1_13, by decide, by decide, by decide +kernel⟩, g_7_104⟩
set_option maxHeartbeats 4000000 in
set_option maxRecDepth 100000 in
theorem c_Mo_formHasI (v0 : Int32) : MI y_Mo_formHasI rm_Mo_formHasI prog_14_method_29_code 1 .boolean (fun a => [.int v0]) (Mo_formHasI v0) := by
  refine mi_of (by decide) (fun _ => le_ rfl) ?_
  intro k res σ C hR hRm hnL h
  unfold Mo_formHasI at h
  show WW k 0 [(0, .int v0)] [] σ
  refine ww_iload_n C 0 rfl rfl (dq dk_Mo_formHasI 0 rfl) ?_
  refine ww_iconst C (dq dk_Mo_formHasI 1 rfl) ic_5 ?_
  refine ww_icmp_eq C 17 (dq dk_Mo_formHasI 2 rfl) (by decide) h (fun h => ?_) (fun h => ?_)
  · refine ww_iconst C (dq dk_Mo_formHasI 9 rfl) ic_1 ?_
    refine ww_goto C 22 (dq dk_Mo_formHasI 10 rfl) (by decide) ?_
    exact ww_zretL C hR (dq dk_Mo_formHasI 12 rfl) (Or.inr rfl) h
  · refine ww_iload_n C 0 rfl rfl (dq dk_Mo_formHasI 3 rfl) ?_
    refine ww_bipush C (dq dk_Mo_formHasI 4 rfl) bp_6 ?_
    refine ww_icmp_eq C 17 (dq dk_Mo_formHasI 5 rfl) (by decide) h (fun h => ?_) (fun h => ?_)
    · refine ww_iconst C (dq dk_Mo_formHasI 9 rfl) ic_1 ?_
      refine ww_goto C 22 (dq dk_Mo_formHasI 10 rfl) (by decide) ?_
      exact ww_zretL C hR (dq dk_Mo_formHasI 12 rfl) (Or.inr rfl) h
    · refine ww_iload_n C 0 rfl rfl (dq dk_Mo_formHasI 6 rfl) ?_
      refine ww_bipush C (dq dk_Mo_formHasI 7 rfl) bp_8 ?_
      refine ww_icmp_ne C 21 (dq dk_Mo_formHasI 8 rfl) (by decide) h (fun h => ?_) (fun h => ?_)
      · refine ww_iconst C (dq dk_Mo_formHasI 11 rfl) ic_0 ?_
        exact ww_zretL C hR (dq dk_Mo_formHasI 12 rfl) (Or.inl rfl) h
      · refine ww_iconst C (dq dk_Mo_formHasI 9 rfl) ic_1 ?_
        refine ww_goto C 22 (dq dk_Mo_formHasI 10 rfl) (by decide) ?_
        exact ww_zretL C hR (dq dk_Mo_formHasI 12 rfl) (Or.inr rfl) h
abbrev y_Mo_plain : MethodName := ⟨"BundleHouseModel", "plain", "(IIIIII)I"⟩
def dl_Mo_plain : List (Nat × Instr × Nat) := [(0, .aload_n 0, 1), (1, .iconst 0, 1), (2, .putfield 105, 3), (5, .aload_n 0, 1), (6, .getfield 208, 3), (9, .bipush 120, 2), (11, .if_icmp .eq 11, 3), (14, .iload_n 1, 1), (15, .iload_n 2, 1), (16, .invokestatic 211, 3), (19, .ifCond .ne 5, 3), (22, .iconst (-1), 1), (23, .ireturn, 1), (24, .iload_n 2, 1), (25, .invokestatic 214, 3), (28, .ifCond .eq 10, 3), (31, .iload_n 3, 1), (32, .invokestatic 217, 3), (35, .ifCond .eq 31, 3), (38, .iload_n 2, 1), (39, .iconst 2, 1), (40, .if_icmp .ne 11, 3), (43, .iload 4, 2), (45, .invokestatic 217, 3), (48, .ifCond .eq 18, 3), (51, .iload_n 2, 1), (52, .invokestatic 220, 3), (55, .ifCond .eq 13, 3), (58, .iload 4, 2), (60, .invokestatic 223, 3), (63, .ifCond .ne 5, 3), (66, .iconst (-1), 1), (67, .ireturn, 1), (68, .iload_n 1, 1), (69, .bipush 14, 2), (71, .if_icmp .lt 24, 3), (74, .iload_n 1, 1), (75, .bipush 16, 2), (77, .if_icmp .gt 18, 3), (80, .iload 6, 2), (82, .ifCond .lt 11, 3), (85, .iload 6, 2), (87, .sipush 255, 3), (90, .if_icmp .le 5, 3), (93, .iconst (-1), 1), (94, .ireturn, 1), (95, .aload_n 0, 1), (96, .getfield 208, 3), (99, .istore 7, 2), (101, .aload_n 0, 1), (102, .getfield 23, 3), (105, .iload 7, 2), (107, .bipush 9, 2), (109, .iastore, 1), (110, .aload_n 0, 1), (111, .getfield 26, 3), (114, .iload 7, 2), (116, .iload_n 1, 1), (117, .iastore, 1), (118, .aload_n 0, 1), (119, .getfield 29, 3), (122, .iload 7, 2), (124, .iload_n 2, 1), (125, .iastore, 1), (126, .aload_n 0, 1), (127, .getfield 32, 3), (130, .iload 7, 2), (132, .iload_n 2, 1), (133, .invokestatic 214, 3), (136, .ifCond .eq 7, 3), (139, .iload_n 3, 1), (140, .goto 4, 3), (143, .iconst 0, 1), (144, .iastore, 1), (145, .aload_n 0, 1), (146, .getfield 35, 3), (149, .iload 7, 2), (151, .iload_n 2, 1), (152, .iconst 2, 1), (153, .if_icmp .eq 10, 3), (156, .iload_n 2, 1), (157, .invokestatic 220, 3), (160, .ifCond .eq 8, 3), (163, .iload 4, 2), (165, .goto 4, 3), (168, .iconst 0, 1), (169, .iastore, 1), (170, .aload_n 0, 1), (171, .getfield 38, 3), (174, .iload 7, 2), (176, .iload_n 2, 1), (177, .invokestatic 220, 3), (180, .ifCond .eq 8, 3), (183, .iload 5, 2), (185, .goto 4, 3), (188, .iconst 0, 1), (189, .iastore, 1), (190, .aload_n 0, 1), (191, .getfield 41, 3), (194, .iload 7, 2), (196, .iload_n 2, 1), (197, .invokestatic 226, 3), (200, .ifCond .eq 8, 3), (203, .iload 6, 2), (205, .goto 4, 3), (208, .iconst 0, 1), (209, .iastore, 1), (210, .aload_n 0, 1), (211, .dup, 1), (212, .getfield 208, 3), (215, .iconst 1, 1), (216, .iadd, 1), (217, .putfield 208, 3), (220, .aload_n 0, 1), (221, .getfield 208, 3), (224, .ireturn, 1)]
set_option maxRecDepth 100000 in
theorem dk_Mo_plain : ∀ q ∈ dl_Mo_plain, decode prog_14_method_30_code q.1 = .ok q.2 := by decide +kernel
abbrev rm_Mo_plain : Room := { frames := 1, cells := 0, slots := 0, locals := 22 }
theorem cw_Mo_plain : CWV y_Mo_plain prog_14_method_30_code 8 (some .int) 6 := ⟨⟨g_7_87, g_1_13, by decide, by decide, by decide +kernel⟩, g_7_85, g_7_86⟩
set_option maxHeartbeats 4000000 in
set_option maxRecDepth 100000 in
theorem t_Mo_plain_B209 {k : Cfg} {res : Int32 × St} (C : Cx k prog_14_method_30_code "BundleHouseModel") (hR : RI k .int res) (hRm : k.2.2.2.1 = rm_Mo_plain) (hnL : k.2.2.2.2.2.2.2.2.2.2.2.1 = 8) (v0 : Nat) (t0 : Nat) (t1 : Int32) (t2 : Int32) (ho_v0 : kd v0 = 12) (σ : St) (h : Mo_plain_B209 v0 t0 t1 t2 σ = some res) : WW k 209 [(0, .ref (ad k v0))] [.int t2, .int t1, .ref (ad k t0)] σ := by
  unfold Mo_plain_B209 at h
  refine ww_srst C (dq dk_Mo_plain 106 rfl) h (fun σ1 h => ?_)
  refine ww_aload_n C 0 rfl rfl (dq dk_Mo_plain 107 rfl) ?_
  refine ww_dup C rfl (dq dk_Mo_plain 108 rfl) ?_
  refine ww_geti C ko_Mo 8 ho_v0 (lt_ rfl) g_6_58 rfl rfl (dq dk_Mo_plain 109 rfl) ?_
  refine ww_iconst C (dq dk_Mo_plain 110 rfl) ic_1 ?_
  refine ww_iadd C (dq dk_Mo_plain 111 rfl) ?_
  refine ww_puti C ko_Mo 8 ho_v0 (lt_ rfl) g_6_58 rfl rfl rfl rfl (dq dk_Mo_plain 112 rfl) h (fun σ2 h => ?_)
  refine ww_aload_n C 0 rfl rfl (dq dk_Mo_plain 113 rfl) ?_
  refine ww_geti C ko_Mo 8 ho_v0 (lt_ rfl) g_6_58 rfl rfl (dq dk_Mo_plain 114 rfl) ?_
  exact ww_iret C hR (dq dk_Mo_plain 115 rfl) h
set_option maxHeartbeats 4000000 in
set_option maxRecDepth 100000 in
theorem t_Mo_plain_B189 {k : Cfg} {res : Int32 × St} (C : Cx k prog_14_method_30_code "BundleHouseModel") (hR : RI k .int res) (hRm : k.2.2.2.1 = rm_Mo_plain) (hnL : k.2.2.2.2.2.2.2.2.2.2.2.1 = 8) (v0 : Nat) (v2 : Int32) (v6 : Int32) (v7 : Int32) (t0 : Nat) (t1 : Int32) (t2 : Int32) (ho_v0 : kd v0 = 12) (σ : St) (h : Mo_plain_B189 v0 v2 v6 v7 t0 t1 t2 σ = some res) : WW k 189 [(0, .ref (ad k v0)), (2, .int v2), (6, .int v6), (7, .int v7)] [.int t2, .int t1, .ref (ad k t0)] σ := by
  unfold Mo_plain_B189 at h
  refine ww_srst C (dq dk_Mo_plain 96 rfl) h (fun σ1 h => ?_)
  refine ww_aload_n C 0 rfl rfl (dq dk_Mo_plain 97 rfl) ?_
  refine ww_getr C ko_Mo 17 ho_v0 (lt_ rfl) g_6_67 rfl rfl (dq dk_Mo_plain 98 rfl) ?_
  refine ww_iload C 3 rfl (dq dk_Mo_plain 99 rfl) ?_
  refine ww_iload_n C 1 rfl rfl (dq dk_Mo_plain 100 rfl) ?_
  refine ww_cSi (st := [.int v7, .ref (ad k (ch v0 17))]) C (c_Mo_formHasI v2) cw_Mo_formHasI g_7_103 hRm ⟨⟨rfl, rfl⟩, le_ rfl, le_ rfl⟩ rfl rfl rfl (le_ rfl) (dq dk_Mo_plain 101 rfl) h (fun x3 σ2 h => ?_)
  refine ww_if_eq C 208 (dq dk_Mo_plain 102 rfl) (by decide) h (fun h => ?_) (fun h => ?_)
  · refine ww_iconst C (dq dk_Mo_plain 105 rfl) ic_0 ?_
    exact ww_lv [0] rfl (t_Mo_plain_B209 C hR hRm hnL v0 (ch v0 17) v7 0 ho_v0 σ2 h)
  · refine ww_iload C 2 rfl (dq dk_Mo_plain 103 rfl) ?_
    refine ww_goto C 209 (dq dk_Mo_plain 104 rfl) (by decide) ?_
    exact ww_lv [0] rfl (t_Mo_plain_B209 C hR hRm hnL v0 (ch v0 17) v7 v6 ho_v0 σ2 h)
set_option maxHeartbeats 4000000 in
set_option maxRecDepth 100000 in
theorem t_Mo_plain_B169 {k : Cfg} {res : Int32 × St} (C : Cx k prog_14_method_30_code "BundleHouseModel") (hR : RI k .int res) (hRm : k.2.2.2.1 = rm_Mo_plain) (hnL : k.2.2.2.2.2.2.2.2.2.2.2.1 = 8) (v0 : Nat) (v2 : Int32) (v5 : Int32) (v6 : Int32) (v7 : Int32) (t0 : Nat) (t1 : Int32) (t2 : Int32) (ho_v0 : kd v0 = 12) (σ : St) (h : Mo_plain_B169 v0 v2 v5 v6 v7 t0 t1 t2 σ = some res) : WW k 169 [(0, .ref (ad k v0)), (2, .int v2), (5, .int v5), (6, .int v6), (7, .int v7)] [.int t2, .int t1, .ref (ad k t0)] σ := by
  unfold Mo_plain_B169 at h
  refine ww_srst C (dq dk_Mo_plain 86 rfl) h (fun σ1 h => ?_)
  refine ww_aload_n C 0 rfl rfl (dq dk_Mo_plain 87 rfl) ?_
  refine ww_getr C ko_Mo 16 ho_v0 (lt_ rfl) g_6_66 rfl rfl (dq dk_Mo_plain 88 rfl) ?_
  refine ww_iload C 4 rfl (dq dk_Mo_plain 89 rfl) ?_
  refine ww_iload_n C 1 rfl rfl (dq dk_Mo_plain 90 rfl) ?_
  refine ww_cSi (st := [.int v7, .ref (ad k (ch v0 16))]) C (c_Mo_formHasMemory v2) cw_Mo_formHasMemory g_7_97 hRm ⟨⟨rfl, rfl⟩, le_ rfl, le_ rfl⟩ rfl rfl rfl (le_ rfl) (dq dk_Mo_plain 91 rfl) h (fun x3 σ2 h => ?_)
  refine ww_if_eq C 188 (dq dk_Mo_plain 92 rfl) (by decide) h (fun h => ?_) (fun h => ?_)
  · refine ww_iconst C (dq dk_Mo_plain 95 rfl) ic_0 ?_
    exact ww_lv [0, 1, 3, 4] rfl (t_Mo_plain_B189 C hR hRm hnL v0 v2 v6 v7 (ch v0 16) v7 0 ho_v0 σ2 h)
  · refine ww_iload C 2 rfl (dq dk_Mo_plain 93 rfl) ?_
    refine ww_goto C 189 (dq dk_Mo_plain 94 rfl) (by decide) ?_
    exact ww_lv [0, 1, 3, 4] rfl (t_Mo_plain_B189 C hR hRm hnL v0 v2 v6 v7 (ch v0 16) v7 v5 ho_v0 σ2 h)
set_option maxHeartbeats 4000000 in
set_option maxRecDepth 100000 in
theorem t_Mo_plain_B144 {k : Cfg} {res : Int32 × St} (C : Cx k prog_14_method_30_code "BundleHouseModel") (hR : RI k .int res) (hRm : k.2.2.2.1 = rm_Mo_plain) (hnL : k.2.2.2.2.2.2.2.2.2.2.2.1 = 8) (v0 : Nat) (v2 : Int32) (v4 : Int32) (v5 : Int32) (v6 : Int32) (v7 : Int32) (t0 : Nat) (t1 : Int32) (t2 : Int32) (ho_v0 : kd v0 = 12) (σ : St) (h : Mo_plain_B144 v0 v2 v4 v5 v6 v7 t0 t1 t2 σ = some res) : WW k 144 [(0, .ref (ad k v0)), (2, .int v2), (4, .int v4), (5, .int v5), (6, .int v6), (7, .int v7)] [.int t2, .int t1, .ref (ad k t0)] σ := by
  unfold Mo_plain_B144 at h
  refine ww_srst C (dq dk_Mo_plain 73 rfl) h (fun σ1 h => ?_)
  refine ww_aload_n C 0 rfl rfl (dq dk_Mo_plain 74 rfl) ?_
  refine ww_getr C ko_Mo 15 ho_v0 (lt_ rfl) g_6_65 rfl rfl (dq dk_Mo_plain 75 rfl) ?_
  refine ww_iload C 5 rfl (dq dk_Mo_plain 76 rfl) ?_
  refine ww_iload_n C 1 rfl rfl (dq dk_Mo_plain 77 rfl) ?_
  refine ww_iconst C (dq dk_Mo_plain 78 rfl) ic_2 ?_
  refine ww_icmp_eq C 163 (dq dk_Mo_plain 79 rfl) (by decide) h (fun h => ?_) (fun h => ?_)
  · refine ww_iload C 2 rfl (dq dk_Mo_plain 83 rfl) ?_
    refine ww_goto C 169 (dq dk_Mo_plain 84 rfl) (by decide) ?_
    exact ww_lv [0, 1, 3, 4, 5] rfl (t_Mo_plain_B169 C hR hRm hnL v0 v2 v5 v6 v7 (ch v0 15) v7 v4 ho_v0 σ1 h)
  · refine ww_iload_n C 1 rfl rfl (dq dk_Mo_plain 80 rfl) ?_
    refine ww_cSi (st := [.int v7, .ref (ad k (ch v0 15))]) C (c_Mo_formHasMemory v2) cw_Mo_formHasMemory g_7_97 hRm ⟨⟨rfl, rfl⟩, le_ rfl, le_ rfl⟩ rfl rfl rfl (le_ rfl) (dq dk_Mo_plain 81 rfl) h (fun x3 σ2 h => ?_)
    refine ww_if_eq C 168 (dq dk_Mo_plain 82 rfl) (by decide) h (fun h => ?_) (fun h => ?_)
    · refine ww_iconst C (dq dk_Mo_plain 85 rfl) ic_0 ?_
      exact ww_lv [0, 1, 3, 4, 5] rfl (t_Mo_plain_B169 C hR hRm hnL v0 v2 v5 v6 v7 (ch v0 15) v7 0 ho_v0 σ2 h)
    · refine ww_iload C 2 rfl (dq dk_Mo_plain 83 rfl) ?_
      refine ww_goto C 169 (dq dk_Mo_plain 84 rfl) (by decide) ?_
      exact ww_lv [0, 1, 3, 4, 5] rfl (t_Mo_plain_B169 C hR hRm hnL v0 v2 v5 v6 v7 (ch v0 15) v7 v4 ho_v0 σ2 h)
set_option maxHeartbeats 4000000 in
set_option maxRecDepth 100000 in
theorem t_Mo_plain_B95 {k : Cfg} {res : Int32 × St} (C : Cx k prog_14_method_30_code "BundleHouseModel") (hR : RI k .int res) (hRm : k.2.2.2.1 = rm_Mo_plain) (hnL : k.2.2.2.2.2.2.2.2.2.2.2.1 = 8) (v0 : Nat) (v1 : Int32) (v2 : Int32) (v3 : Int32) (v4 : Int32) (v5 : Int32) (v6 : Int32) (ho_v0 : kd v0 = 12) (σ : St) (h : Mo_plain_B95 v0 v1 v2 v3 v4 v5 v6 σ = some res) : WW k 95 [(0, .ref (ad k v0)), (1, .int v1), (2, .int v2), (3, .int v3), (4, .int v4), (5, .int v5), (6, .int v6)] [] σ := by
  unfold Mo_plain_B95 at h
  refine ww_aload_n C 0 rfl rfl (dq dk_Mo_plain 46 rfl) ?_
  refine ww_geti C ko_Mo 8 ho_v0 (lt_ rfl) g_6_58 rfl rfl (dq dk_Mo_plain 47 rfl) ?_
  refine ww_nmi h (fun x1 h => ?_)
  refine ww_istore C [(7, .int x1), (0, .ref (ad k v0)), (1, .int v1), (2, .int v2), (3, .int v3), (4, .int v4), (5, .int v5), (6, .int v6)] hnL (lt_ rfl) rfl (dq dk_Mo_plain 48 rfl) ?_
  refine ww_aload_n C 1 rfl rfl (dq dk_Mo_plain 49 rfl) ?_
  refine ww_getr C ko_Mo 11 ho_v0 (lt_ rfl) g_6_61 rfl rfl (dq dk_Mo_plain 50 rfl) ?_
  refine ww_iload C 0 rfl (dq dk_Mo_plain 51 rfl) ?_
  refine ww_bipush C (dq dk_Mo_plain 52 rfl) bp_9 ?_
  refine ww_iast C (kc_Mo_11 _ ho_v0).1 (kc_Mo_11 _ ho_v0).2 (dq dk_Mo_plain 53 rfl) h (fun σ2 h => ?_)
  refine ww_aload_n C 1 rfl rfl (dq dk_Mo_plain 54 rfl) ?_
  refine ww_getr C ko_Mo 12 ho_v0 (lt_ rfl) g_6_62 rfl rfl (dq dk_Mo_plain 55 rfl) ?_
  refine ww_iload C 0 rfl (dq dk_Mo_plain 56 rfl) ?_
  refine ww_iload_n C 2 rfl rfl (dq dk_Mo_plain 57 rfl) ?_
  refine ww_iast C (kc_Mo_12 _ ho_v0).1 (kc_Mo_12 _ ho_v0).2 (dq dk_Mo_plain 58 rfl) h (fun σ3 h => ?_)
  refine ww_aload_n C 1 rfl rfl (dq dk_Mo_plain 59 rfl) ?_
  refine ww_getr C ko_Mo 13 ho_v0 (lt_ rfl) g_6_63 rfl rfl (dq dk_Mo_plain 60 rfl) ?_
  refine ww_iload C 0 rfl (dq dk_Mo_plain 61 rfl) ?_
  refine ww_iload_n C 3 rfl rfl (dq dk_Mo_plain 62 rfl) ?_
  refine ww_iast C (kc_Mo_13 _ ho_v0).1 (kc_Mo_13 _ ho_v0).2 (dq dk_Mo_plain 63 rfl) h (fun σ4 h => ?_)
  refine ww_aload_n C 1 rfl rfl (dq dk_Mo_plain 64 rfl) ?_
  refine ww_getr C ko_Mo 14 ho_v0 (lt_ rfl) g_6_64 rfl rfl (dq dk_Mo_plain 65 rfl) ?_
  refine ww_iload C 0 rfl (dq dk_Mo_plain 66 rfl) ?_
  refine ww_iload_n C 3 rfl rfl (dq dk_Mo_plain 67 rfl) ?_
  refine ww_cSi (st := [.int x1, .ref (ad k (ch v0 14))]) C (c_Mo_formHasR v2) cw_Mo_formHasR g_7_91 hRm ⟨⟨rfl, rfl⟩, le_ rfl, le_ rfl⟩ rfl rfl rfl (le_ rfl) (dq dk_Mo_plain 68 rfl) h (fun x6 σ5 h => ?_)
  refine ww_if_eq C 143 (dq dk_Mo_plain 69 rfl) (by decide) h (fun h => ?_) (fun h => ?_)
  · refine ww_iconst C (dq dk_Mo_plain 72 rfl) ic_0 ?_
    exact ww_lv [1, 3, 5, 6, 7, 0] rfl (t_Mo_plain_B144 C hR hRm hnL v0 v2 v4 v5 v6 x1 (ch v0 14) x1 0 ho_v0 σ5 h)
  · refine ww_iload_n C 4 rfl rfl (dq dk_Mo_plain 70 rfl) ?_
    refine ww_goto C 144 (dq dk_Mo_plain 71 rfl) (by decide) ?_
    exact ww_lv [1, 3, 5, 6, 7, 0] rfl (t_Mo_plain_B144 C hR hRm hnL v0 v2 v4 v5 v6 x1 (ch v0 14) x1 v3 ho_v0 σ5 h)
set_option maxHeartbeats 4000000 in
set_option maxRecDepth 100000 in
theorem t_Mo_plain_B68 {k : Cfg} {res : Int32 × St} (C : Cx k prog_14_method_30_code "BundleHouseModel") (hR : RI k .int res) (hRm : k.2.2.2.1 = rm_Mo_plain) (hnL : k.2.2.2.2.2.2.2.2.2.2.2.1 = 8) (v0 : Nat) (v1 : Int32) (v2 : Int32) (v3 : Int32) (v4 : Int32) (v5 : Int32) (v6 : Int32) (ho_v0 : kd v0 = 12) (σ : St) (h : Mo_plain_B68 v0 v1 v2 v3 v4 v5 v6 σ = some res) : WW k 68 [(0, .ref (ad k v0)), (1, .int v1), (2, .int v2), (3, .int v3), (4, .int v4), (5, .int v5), (6, .int v6)] [] σ := by
  unfold Mo_plain_B68 at h
  refine ww_iload_n C 1 rfl rfl (dq dk_Mo_plain 33 rfl) ?_
  refine ww_bipush C (dq dk_Mo_plain 34 rfl) bp_14 ?_
  refine ww_icmp_lt C 95 (dq dk_Mo_plain 35 rfl) (by decide) h (fun h => ?_) (fun h => ?_)
  · exact ww_lv [0, 1, 2, 3, 4, 5, 6] rfl (t_Mo_plain_B95 C hR hRm hnL v0 v1 v2 v3 v4 v5 v6 ho_v0 σ h)
  · refine ww_iload_n C 1 rfl rfl (dq dk_Mo_plain 36 rfl) ?_
    refine ww_bipush C (dq dk_Mo_plain 37 rfl) bp_16 ?_
    refine ww_icmp_gt C 95 (dq dk_Mo_plain 38 rfl) (by decide) h (fun h => ?_) (fun h => ?_)
    · exact ww_lv [0, 1, 2, 3, 4, 5, 6] rfl (t_Mo_plain_B95 C hR hRm hnL v0 v1 v2 v3 v4 v5 v6 ho_v0 σ h)
    · refine ww_iload C 6 rfl (dq dk_Mo_plain 39 rfl) ?_
      refine ww_if_lt C 93 (dq dk_Mo_plain 40 rfl) (by decide) h (fun h => ?_) (fun h => ?_)
      · refine ww_iconst C (dq dk_Mo_plain 44 rfl) ic_m1 ?_
        exact ww_iret C hR (dq dk_Mo_plain 45 rfl) h
      · refine ww_iload C 6 rfl (dq dk_Mo_plain 41 rfl) ?_
        refine ww_sipush C (dq dk_Mo_plain 42 rfl) sp_255 ?_
        refine ww_icmp_le C 95 (dq dk_Mo_plain 43 rfl) (by decide) h (fun h => ?_) (fun h => ?_)
        · exact ww_lv [0, 1, 2, 3, 4, 5, 6] rfl (t_Mo_plain_B95 C hR hRm hnL v0 v1 v2 v3 v4 v5 v6 ho_v0 σ h)
        · refine ww_iconst C (dq dk_Mo_plain 44 rfl) ic_m1 ?_
          exact ww_iret C hR (dq dk_Mo_plain 45 rfl) h
set_option maxHeartbeats 4000000 in
set_option maxRecDepth 100000 in
theorem t_Mo_plain_B51 {k : Cfg} {res : Int32 × St} (C : Cx k prog_14_method_30_code "BundleHouseModel") (hR : RI k .int res) (hRm : k.2.2.2.1 = rm_Mo_plain) (hnL : k.2.2.2.2.2.2.2.2.2.2.2.1 = 8) (v0 : Nat) (v1 : Int32) (v2 : Int32) (v3 : Int32) (v4 : Int32) (v5 : Int32) (v6 : Int32) (ho_v0 : kd v0 = 12) (σ : St) (h : Mo_plain_B51 v0 v1 v2 v3 v4 v5 v6 σ = some res) : WW k 51 [(0, .ref (ad k v0)), (1, .int v1), (2, .int v2), (3, .int v3), (4, .int v4), (5, .int v5), (6, .int v6)] [] σ := by
  unfold Mo_plain_B51 at h
  refine ww_iload_n C 2 rfl rfl (dq dk_Mo_plain 25 rfl) ?_
  refine ww_cSi (st := []) C (c_Mo_formHasMemory v2) cw_Mo_formHasMemory g_7_97 hRm ⟨⟨rfl, rfl⟩, le_ rfl, le_ rfl⟩ rfl rfl rfl (le_ rfl) (dq dk_Mo_plain 26 rfl) h (fun x2 σ1 h => ?_)
  refine ww_if_eq C 68 (dq dk_Mo_plain 27 rfl) (by decide) h (fun h => ?_) (fun h => ?_)
  · exact ww_lv [0, 1, 2, 3, 4, 5, 6] rfl (t_Mo_plain_B68 C hR hRm hnL v0 v1 v2 v3 v4 v5 v6 ho_v0 σ1 h)
  · refine ww_iload C 4 rfl (dq dk_Mo_plain 28 rfl) ?_
    refine ww_cSi (st := []) C (c_Mo_isMemoryX v4) cw_Mo_isMemoryX g_7_100 hRm ⟨⟨rfl, rfl⟩, le_ rfl, le_ rfl⟩ rfl rfl rfl (le_ rfl) (dq dk_Mo_plain 29 rfl) h (fun x4 σ3 h => ?_)
    refine ww_if_ne C 68 (dq dk_Mo_plain 30 rfl) (by decide) h (fun h => ?_) (fun h => ?_)
    · exact ww_lv [0, 1, 2, 3, 4, 5, 6] rfl (t_Mo_plain_B68 C hR hRm hnL v0 v1 v2 v3 v4 v5 v6 ho_v0 σ3 h)
    · refine ww_iconst C (dq dk_Mo_plain 31 rfl) ic_m1 ?_
      exact ww_iret C hR (dq dk_Mo_plain 32 rfl) h
set_option maxHeartbeats 4000000 in
set_option maxRecDepth 100000 in
theorem t_Mo_plain_B38 {k : Cfg} {res : Int32 × St} (C : Cx k prog_14_method_30_code "BundleHouseModel") (hR : RI k .int res) (hRm : k.2.2.2.1 = rm_Mo_plain) (hnL : k.2.2.2.2.2.2.2.2.2.2.2.1 = 8) (v0 : Nat) (v1 : Int32) (v2 : Int32) (v3 : Int32) (v4 : Int32) (v5 : Int32) (v6 : Int32) (ho_v0 : kd v0 = 12) (σ : St) (h : Mo_plain_B38 v0 v1 v2 v3 v4 v5 v6 σ = some res) : WW k 38 [(0, .ref (ad k v0)), (1, .int v1), (2, .int v2), (3, .int v3), (4, .int v4), (5, .int v5), (6, .int v6)] [] σ := by
  unfold Mo_plain_B38 at h
  refine ww_iload_n C 2 rfl rfl (dq dk_Mo_plain 19 rfl) ?_
  refine ww_iconst C (dq dk_Mo_plain 20 rfl) ic_2 ?_
  refine ww_icmp_ne C 51 (dq dk_Mo_plain 21 rfl) (by decide) h (fun h => ?_) (fun h => ?_)
  · exact ww_lv [0, 1, 2, 3, 4, 5, 6] rfl (t_Mo_plain_B51 C hR hRm hnL v0 v1 v2 v3 v4 v5 v6 ho_v0 σ h)
  · refine ww_iload C 4 rfl (dq dk_Mo_plain 22 rfl) ?_
    refine ww_cSi (st := []) C (c_Mo_isRegister v4) cw_Mo_isRegister g_7_94 hRm ⟨⟨rfl, rfl⟩, le_ rfl, le_ rfl⟩ rfl rfl rfl (le_ rfl) (dq dk_Mo_plain 23 rfl) h (fun x2 σ1 h => ?_)
    refine ww_if_eq C 66 (dq dk_Mo_plain 24 rfl) (by decide) h (fun h => ?_) (fun h => ?_)
    · refine ww_iconst C (dq dk_Mo_plain 31 rfl) ic_m1 ?_
      exact ww_iret C hR (dq dk_Mo_plain 32 rfl) h
    · exact ww_lv [0, 1, 2, 3, 4, 5, 6] rfl (t_Mo_plain_B51 C hR hRm hnL v0 v1 v2 v3 v4 v5 v6 ho_v0 σ1 h)
set_option maxHeartbeats 4000000 in
set_option maxRecDepth 100000 in
theorem c_Mo_plain (v0 : Nat) (ho_v0 : kd v0 = 12) (v1 : Int32) (v2 : Int32) (v3 : Int32) (v4 : Int32) (v5 : Int32) (v6 : Int32) : MI y_Mo_plain rm_Mo_plain prog_14_method_30_code 8 .int (fun a => [.ref (a v0), .int v1, .int v2, .int v3, .int v4, .int v5, .int v6]) (Mo_plain v0 v1 v2 v3 v4 v5 v6) := by
  refine mi_of (by decide) (fun _ => le_ rfl) ?_
  intro k res σ C hR hRm hnL h
  unfold Mo_plain at h
  show WW k 0 [(0, .ref (ad k v0)), (1, .int v1), (2, .int v2), (3, .int v3), (4, .int v4), (5, .int v5), (6, .int v6)] [] σ
  refine ww_aload_n C 0 rfl rfl (dq dk_Mo_plain 0 rfl) ?_
  refine ww_iconst C (dq dk_Mo_plain 1 rfl) ic_0 ?_
  refine ww_puti C ko_Mo 0 ho_v0 (lt_ rfl) g_6_50 rfl rfl rfl rfl (dq dk_Mo_plain 2 rfl) h (fun σ1 h => ?_)
  refine ww_aload_n C 0 rfl rfl (dq dk_Mo_plain 3 rfl) ?_
  refine ww_geti C ko_Mo 8 ho_v0 (lt_ rfl) g_6_58 rfl rfl (dq dk_Mo_plain 4 rfl) ?_
  refine ww_bipush C (dq dk_Mo_plain 5 rfl) bp_120 ?_
  refine ww_icmp_eq C 22 (dq dk_Mo_plain 6 rfl) (by decide) h (fun h => ?_) (fun h => ?_)
  · refine ww_iconst C (dq dk_Mo_plain 11 rfl) ic_m1 ?_
    exact ww_iret C hR (dq dk_Mo_plain 12 rfl) h
  · refine ww_iload_n C 1 rfl rfl (dq dk_Mo_plain 7 rfl) ?_
    refine ww_iload_n C 2 rfl rfl (dq dk_Mo_plain 8 rfl) ?_
    refine ww_cSi (st := []) C (c_Mo_hasForm v1 v2) cw_Mo_hasForm g_7_88 hRm ⟨⟨rfl, rfl⟩, le_ rfl, le_ rfl⟩ rfl rfl rfl (le_ rfl) (dq dk_Mo_plain 9 rfl) h (fun x3 σ2 h => ?_)
    refine ww_if_ne C 24 (dq dk_Mo_plain 10 rfl) (by decide) h (fun h => ?_) (fun h => ?_)
    · refine ww_iload_n C 2 rfl rfl (dq dk_Mo_plain 13 rfl) ?_
      refine ww_cSi (st := []) C (c_Mo_formHasR v2) cw_Mo_formHasR g_7_91 hRm ⟨⟨rfl, rfl⟩, le_ rfl, le_ rfl⟩ rfl rfl rfl (le_ rfl) (dq dk_Mo_plain 14 rfl) h (fun x5 σ4 h => ?_)
      refine ww_if_eq C 38 (dq dk_Mo_plain 15 rfl) (by decide) h (fun h => ?_) (fun h => ?_)
      · exact ww_lv [0, 1, 2, 3, 4, 5, 6] rfl (t_Mo_plain_B38 C hR hRm hnL v0 v1 v2 v3 v4 v5 v6 ho_v0 σ4 h)
      · refine ww_iload_n C 3 rfl rfl (dq dk_Mo_plain 16 rfl) ?_
        refine ww_cSi (st := []) C (c_Mo_isRegister v3) cw_Mo_isRegister g_7_94 hRm ⟨⟨rfl, rfl⟩, le_ rfl, le_ rfl⟩ rfl rfl rfl (le_ rfl) (dq dk_Mo_plain 17 rfl) h (fun x7 σ6 h => ?_)
        refine ww_if_eq C 66 (dq dk_Mo_plain 18 rfl) (by decide) h (fun h => ?_) (fun h => ?_)
        · refine ww_iconst C (dq dk_Mo_plain 31 rfl) ic_m1 ?_
          exact ww_iret C hR (dq dk_Mo_plain 32 rfl) h
        · exact ww_lv [0, 1, 2, 3, 4, 5, 6] rfl (t_Mo_plain_B38 C hR hRm hnL v0 v1 v2 v3 v4 v5 v6 ho_v0 σ6 h)
    · refine ww_iconst C (dq dk_Mo_plain 11 rfl) ic_m1 ?_
      exact ww_iret C hR (dq dk_Mo_plain 12 rfl) h
abbrev y_Mo_flow : MethodName := ⟨"BundleHouseModel", "flow", "(III)I"⟩
def dl_Mo_flow : List (Nat × Instr × Nat) := [(0, .aload_n 0, 1), (1, .iconst 0, 1), (2, .putfield 105, 3), (5, .iload_n 2, 1), (6, .ifCond .lt 13, 3), (9, .iload_n 2, 1), (10, .bipush 40, 2), (12, .if_icmp .ge 7, 3), (15, .iconst 1, 1), (16, .goto 4, 3), (19, .iconst 0, 1), (20, .istore 4, 2), (22, .iload_n 1, 1), (23, .tableswitch 186 0 8 #[49, 73, 80, 73, 117, 136, 136, 158, 164], 49), (72, .iload 4, 2), (74, .ifCond .eq 16, 3), (77, .iload_n 3, 1), (78, .ifCond .eq 8, 3), (81, .iload_n 3, 1), (82, .iconst 1, 1), (83, .if_icmp .ne 7, 3), (86, .iconst 1, 1), (87, .goto 4, 3), (90, .iconst 0, 1), (91, .istore 5, 2), (93, .goto 119, 3), (96, .iload 4, 2), (98, .istore 5, 2), (100, .goto 112, 3), (103, .iload 4, 2), (105, .ifCond .eq 29, 3), (108, .iload_n 3, 1), (109, .ifCond .lt 25, 3), (112, .iload_n 3, 1), (113, .bipush 16, 2), (115, .if_icmp .ge 19, 3), (118, .iload_n 3, 1), (119, .bipush 10, 2), (121, .if_icmp .eq 13, 3), (124, .iload_n 3, 1), (125, .bipush 11, 2), (127, .if_icmp .eq 7, 3), (130, .iconst 1, 1), (131, .goto 4, 3), (134, .iconst 0, 1), (135, .istore 5, 2), (137, .goto 75, 3), (140, .iload_n 2, 1), (141, .ifCond .lt 12, 3), (144, .iload_n 2, 1), (145, .iconst 4, 1), (146, .if_icmp .ge 7, 3), (149, .iconst 1, 1), (150, .goto 4, 3), (153, .iconst 0, 1), (154, .istore 5, 2), (156, .goto 56, 3), (159, .iload_n 2, 1), (160, .invokestatic 217, 3), (163, .ifCond .eq 12, 3), (166, .iload_n 2, 1), (167, .iconst 4, 1), (168, .if_icmp .eq 7, 3), (171, .iconst 1, 1), (172, .goto 4, 3), (175, .iconst 0, 1), (176, .istore 5, 2), (178, .goto 34, 3), (181, .iconst 1, 1), (182, .istore 5, 2), (184, .goto 28, 3), (187, .iload 4, 2), (189, .ifCond .eq 14, 3), (192, .iload_n 3, 1), (193, .invokestatic 217, 3), (196, .ifCond .eq 7, 3), (199, .iconst 1, 1), (200, .goto 4, 3), (203, .iconst 0, 1), (204, .istore 5, 2), (206, .goto 6, 3), (209, .iconst 0, 1), (210, .istore 5, 2), (212, .aload_n 0, 1), (213, .getfield 208, 3), (216, .bipush 120, 2), (218, .if_icmp .eq 8, 3), (221, .iload 5, 2), (223, .ifCond .ne 5, 3), (226, .iconst (-1), 1), (227, .ireturn, 1), (228, .aload_n 0, 1), (229, .getfield 208, 3), (232, .istore 6, 2), (234, .aload_n 0, 1), (235, .getfield 23, 3), (238, .iload 6, 2), (240, .iload_n 1, 1), (241, .iastore, 1), (242, .aload_n 0, 1), (243, .getfield 32, 3), (246, .iload 6, 2), (248, .iload_n 1, 1), (249, .bipush 7, 2), (251, .if_icmp .ne 7, 3), (254, .iconst 1, 1), (255, .goto 4, 3), (258, .iload_n 2, 1), (259, .iastore, 1), (260, .aload_n 0, 1), (261, .getfield 35, 3), (264, .iload 6, 2), (266, .iload_n 1, 1), (267, .ifCond .eq 14, 3), (270, .iload_n 1, 1), (271, .iconst 2, 1), (272, .if_icmp .eq 9, 3), (275, .iload_n 1, 1), (276, .bipush 8, 2), (278, .if_icmp .ne 7, 3), (281, .iload_n 3, 1), (282, .goto 4, 3), (285, .iconst 0, 1), (286, .iastore, 1), (287, .aload_n 0, 1), (288, .dup, 1), (289, .getfield 208, 3), (292, .iconst 1, 1), (293, .iadd, 1), (294, .putfield 208, 3), (297, .aload_n 0, 1), (298, .getfield 208, 3), (301, .ireturn, 1)]
set_option maxRecDepth 100000 in
theorem dk_Mo_flow : ∀ q ∈ dl_Mo_flow, decode prog_14_method_31_code q.1 = .ok q.2 := by decide +kernel
abbrev rm_Mo_flow : Room := { frames := 1, cells := 0, slots := 0, locals := 20 }
theorem cw_Mo_flow : CWV y_Mo_flow prog_14_method_31_code 7 (some .int) 3 := ⟨⟨g_7_109, g_1_13, by decide, by decide, by decide +kernel⟩, g_7_107, g_7_108⟩
set_option maxHeartbeats 4000000 in
set_option maxRecDepth 100000 in
theorem t_Mo_flow_B286 {k : Cfg} {res : Int32 × St} (C : Cx k prog_14_method_31_code "BundleHouseModel") (hR : RI k .int res) (hRm : k.2.2.2.1 = rm_Mo_flow) (hnL : k.2.2.2.2.2.2.2.2.2.2.2.1 = 7) (v0 : Nat) (t0 : Nat) (t1 : Int32) (t2 : Int32) (ho_v0 : kd v0 = 12) (σ : St) (h : Mo_flow_B286 v0 t0 t1 t2 σ = some res) : WW k 286 [(0, .ref (ad k v0))] [.int t2, .int t1, .ref (ad k t0)] σ := by
  unfold Mo_flow_B286 at h
  refine ww_srst C (dq dk_Mo_flow 123 rfl) h (fun σ1 h => ?_)
  refine ww_aload_n C 0 rfl rfl (dq dk_Mo_flow 124 rfl) ?_
  refine ww_dup C rfl (dq dk_Mo_flow 125 rfl) ?_
  refine ww_geti C ko_Mo 8 ho_v0 (lt_ rfl) g_6_58 rfl rfl (dq dk_Mo_flow 126 rfl) ?_
  refine ww_iconst C (dq dk_Mo_flow 127 rfl) ic_1 ?_
  refine ww_iadd C (dq dk_Mo_flow 128 rfl) ?_
  refine ww_puti C ko_Mo 8 ho_v0 (lt_ rfl) g_6_58 rfl rfl rfl rfl (dq dk_Mo_flow 129 rfl) h (fun σ2 h => ?_)
  refine ww_aload_n C 0 rfl rfl (dq dk_Mo_flow 130 rfl) ?_
  refine ww_geti C ko_Mo 8 ho_v0 (lt_ rfl) g_6_58 rfl rfl (dq dk_Mo_flow 131 rfl) ?_
  exact ww_iret C hR (dq dk_Mo_flow 132 rfl) h
set_option maxHeartbeats 4000000 in
set_option maxRecDepth 100000 in
theorem t_Mo_flow_B259 {k : Cfg} {res : Int32 × St} (C : Cx k prog_14_method_31_code "BundleHouseModel") (hR : RI k .int res) (hRm : k.2.2.2.1 = rm_Mo_flow) (hnL : k.2.2.2.2.2.2.2.2.2.2.2.1 = 7) (v0 : Nat) (v1 : Int32) (v3 : Int32) (v6 : Int32) (t0 : Nat) (t1 : Int32) (t2 : Int32) (ho_v0 : kd v0 = 12) (σ : St) (h : Mo_flow_B259 v0 v1 v3 v6 t0 t1 t2 σ = some res) : WW k 259 [(0, .ref (ad k v0)), (1, .int v1), (3, .int v3), (6, .int v6)] [.int t2, .int t1, .ref (ad k t0)] σ := by
  unfold Mo_flow_B259 at h
  refine ww_srst C (dq dk_Mo_flow 108 rfl) h (fun σ1 h => ?_)
  refine ww_aload_n C 0 rfl rfl (dq dk_Mo_flow 109 rfl) ?_
  refine ww_getr C ko_Mo 15 ho_v0 (lt_ rfl) g_6_65 rfl rfl (dq dk_Mo_flow 110 rfl) ?_
  refine ww_iload C 3 rfl (dq dk_Mo_flow 111 rfl) ?_
  refine ww_iload_n C 1 rfl rfl (dq dk_Mo_flow 112 rfl) ?_
  refine ww_if_eq C 281 (dq dk_Mo_flow 113 rfl) (by decide) h (fun h => ?_) (fun h => ?_)
  · refine ww_iload_n C 2 rfl rfl (dq dk_Mo_flow 120 rfl) ?_
    refine ww_goto C 286 (dq dk_Mo_flow 121 rfl) (by decide) ?_
    exact ww_lv [0] rfl (t_Mo_flow_B286 C hR hRm hnL v0 (ch v0 15) v6 v3 ho_v0 σ1 h)
  · refine ww_iload_n C 1 rfl rfl (dq dk_Mo_flow 114 rfl) ?_
    refine ww_iconst C (dq dk_Mo_flow 115 rfl) ic_2 ?_
    refine ww_icmp_eq C 281 (dq dk_Mo_flow 116 rfl) (by decide) h (fun h => ?_) (fun h => ?_)
    · refine ww_iload_n C 2 rfl rfl (dq dk_Mo_flow 120 rfl) ?_
      refine ww_goto C 286 (dq dk_Mo_flow 121 rfl) (by decide) ?_
      exact ww_lv [0] rfl (t_Mo_flow_B286 C hR hRm hnL v0 (ch v0 15) v6 v3 ho_v0 σ1 h)
    · refine ww_iload_n C 1 rfl rfl (dq dk_Mo_flow 117 rfl) ?_
      refine ww_bipush C (dq dk_Mo_flow 118 rfl) bp_8 ?_
      refine ww_icmp_ne C 285 (dq dk_Mo_flow 119 rfl) (by decide) h (fun h => ?_) (fun h => ?_)
      · refine ww_iconst C (dq dk_Mo_flow 122 rfl) ic_0 ?_
        exact ww_lv [0] rfl (t_Mo_flow_B286 C hR hRm hnL v0 (ch v0 15) v6 0 ho_v0 σ1 h)
      · refine ww_iload_n C 2 rfl rfl (dq dk_Mo_flow 120 rfl) ?_
        refine ww_goto C 286 (dq dk_Mo_flow 121 rfl) (by decide) ?_
        exact ww_lv [0] rfl (t_Mo_flow_B286 C hR hRm hnL v0 (ch v0 15) v6 v3 ho_v0 σ1 h)
set_option maxHeartbeats 4000000 in
set_option maxRecDepth 100000 in
theorem t_Mo_flow_B212 {k : Cfg} {res : Int32 × St} (C : Cx k prog_14_method_31_code "BundleHouseModel") (hR : RI k .int res) (hRm : k.2.2.2.1 = rm_Mo_flow) (hnL : k.2.2.2.2.2.2.2.2.2.2.2.1 = 7) (v0 : Nat) (v1 : Int32) (v2 : Int32) (v3 : Int32) (v5 : Int32) (ho_v0 : kd v0 = 12) (σ : St) (h : Mo_flow_B212 v0 v1 v2 v3 v5 σ = some res) : WW k 212 [(0, .ref (ad k v0)), (1, .int v1), (2, .int v2), (3, .int v3), (5, .int v5)] [] σ := by
  unfold Mo_flow_B212 at h
  refine ww_aload_n C 0 rfl rfl (dq dk_Mo_flow 83 rfl) ?_
  refine ww_geti C ko_Mo 8 ho_v0 (lt_ rfl) g_6_58 rfl rfl (dq dk_Mo_flow 84 rfl) ?_
  refine ww_bipush C (dq dk_Mo_flow 85 rfl) bp_120 ?_
  refine ww_icmp_eq C 226 (dq dk_Mo_flow 86 rfl) (by decide) h (fun h => ?_) (fun h => ?_)
  · refine ww_iconst C (dq dk_Mo_flow 89 rfl) ic_m1 ?_
    exact ww_iret C hR (dq dk_Mo_flow 90 rfl) h
  · refine ww_iload C 4 rfl (dq dk_Mo_flow 87 rfl) ?_
    refine ww_if_ne C 228 (dq dk_Mo_flow 88 rfl) (by decide) h (fun h => ?_) (fun h => ?_)
    · refine ww_aload_n C 0 rfl rfl (dq dk_Mo_flow 91 rfl) ?_
      refine ww_geti C ko_Mo 8 ho_v0 (lt_ rfl) g_6_58 rfl rfl (dq dk_Mo_flow 92 rfl) ?_
      refine ww_nmi h (fun x1 h => ?_)
      refine ww_istore C [(6, .int x1), (0, .ref (ad k v0)), (1, .int v1), (2, .int v2), (3, .int v3), (5, .int v5)] hnL (lt_ rfl) rfl (dq dk_Mo_flow 93 rfl) ?_
      refine ww_aload_n C 1 rfl rfl (dq dk_Mo_flow 94 rfl) ?_
      refine ww_getr C ko_Mo 11 ho_v0 (lt_ rfl) g_6_61 rfl rfl (dq dk_Mo_flow 95 rfl) ?_
      refine ww_iload C 0 rfl (dq dk_Mo_flow 96 rfl) ?_
      refine ww_iload_n C 2 rfl rfl (dq dk_Mo_flow 97 rfl) ?_
      refine ww_iast C (kc_Mo_11 _ ho_v0).1 (kc_Mo_11 _ ho_v0).2 (dq dk_Mo_flow 98 rfl) h (fun σ2 h => ?_)
      refine ww_aload_n C 1 rfl rfl (dq dk_Mo_flow 99 rfl) ?_
      refine ww_getr C ko_Mo 14 ho_v0 (lt_ rfl) g_6_64 rfl rfl (dq dk_Mo_flow 100 rfl) ?_
      refine ww_iload C 0 rfl (dq dk_Mo_flow 101 rfl) ?_
      refine ww_iload_n C 2 rfl rfl (dq dk_Mo_flow 102 rfl) ?_
      refine ww_bipush C (dq dk_Mo_flow 103 rfl) bp_7 ?_
      refine ww_icmp_ne C 258 (dq dk_Mo_flow 104 rfl) (by decide) h (fun h => ?_) (fun h => ?_)
      · refine ww_iload_n C 3 rfl rfl (dq dk_Mo_flow 107 rfl) ?_
        exact ww_lv [1, 2, 4, 0] rfl (t_Mo_flow_B259 C hR hRm hnL v0 v1 v3 x1 (ch v0 14) x1 v2 ho_v0 σ2 h)
      · refine ww_iconst C (dq dk_Mo_flow 105 rfl) ic_1 ?_
        refine ww_goto C 259 (dq dk_Mo_flow 106 rfl) (by decide) ?_
        exact ww_lv [1, 2, 4, 0] rfl (t_Mo_flow_B259 C hR hRm hnL v0 v1 v3 x1 (ch v0 14) x1 1 ho_v0 σ2 h)
    · refine ww_iconst C (dq dk_Mo_flow 89 rfl) ic_m1 ?_
      exact ww_iret C hR (dq dk_Mo_flow 90 rfl) h
set_option maxHeartbeats 4000000 in
set_option maxRecDepth 100000 in
theorem t_Mo_flow_B159 {k : Cfg} {res : Int32 × St} (C : Cx k prog_14_method_31_code "BundleHouseModel") (hR : RI k .int res) (hRm : k.2.2.2.1 = rm_Mo_flow) (hnL : k.2.2.2.2.2.2.2.2.2.2.2.1 = 7) (v0 : Nat) (v1 : Int32) (v2 : Int32) (v3 : Int32) (ho_v0 : kd v0 = 12) (σ : St) (h : Mo_flow_B159 v0 v1 v2 v3 σ = some res) : WW k 159 [(0, .ref (ad k v0)), (1, .int v1), (2, .int v2), (3, .int v3)] [] σ := by
  unfold Mo_flow_B159 at h
  refine ww_iload_n C 2 rfl rfl (dq dk_Mo_flow 57 rfl) ?_
  refine ww_cSi (st := []) C (c_Mo_isRegister v2) cw_Mo_isRegister g_7_94 hRm ⟨⟨rfl, rfl⟩, le_ rfl, le_ rfl⟩ rfl rfl rfl (le_ rfl) (dq dk_Mo_flow 58 rfl) h (fun x2 σ1 h => ?_)
  refine ww_if_eq C 175 (dq dk_Mo_flow 59 rfl) (by decide) h (fun h => ?_) (fun h => ?_)
  · refine ww_iconst C (dq dk_Mo_flow 65 rfl) ic_0 ?_
    refine ww_istore C [(5, .int 0), (0, .ref (ad k v0)), (1, .int v1), (2, .int v2), (3, .int v3)] hnL (lt_ rfl) rfl (dq dk_Mo_flow 66 rfl) ?_
    refine ww_goto C 212 (dq dk_Mo_flow 67 rfl) (by decide) ?_
    exact ww_lv [1, 2, 3, 4, 0] rfl (t_Mo_flow_B212 C hR hRm hnL v0 v1 v2 v3 0 ho_v0 σ1 h)
  · refine ww_iload_n C 2 rfl rfl (dq dk_Mo_flow 60 rfl) ?_
    refine ww_iconst C (dq dk_Mo_flow 61 rfl) ic_4 ?_
    refine ww_icmp_eq C 175 (dq dk_Mo_flow 62 rfl) (by decide) h (fun h => ?_) (fun h => ?_)
    · refine ww_iconst C (dq dk_Mo_flow 65 rfl) ic_0 ?_
      refine ww_istore C [(5, .int 0), (0, .ref (ad k v0)), (1, .int v1), (2, .int v2), (3, .int v3)] hnL (lt_ rfl) rfl (dq dk_Mo_flow 66 rfl) ?_
      refine ww_goto C 212 (dq dk_Mo_flow 67 rfl) (by decide) ?_
      exact ww_lv [1, 2, 3, 4, 0] rfl (t_Mo_flow_B212 C hR hRm hnL v0 v1 v2 v3 0 ho_v0 σ1 h)
    · refine ww_iconst C (dq dk_Mo_flow 63 rfl) ic_1 ?_
      refine ww_goto C 176 (dq dk_Mo_flow 64 rfl) (by decide) ?_
      refine ww_istore C [(5, .int 1), (0, .ref (ad k v0)), (1, .int v1), (2, .int v2), (3, .int v3)] hnL (lt_ rfl) rfl (dq dk_Mo_flow 66 rfl) ?_
      refine ww_goto C 212 (dq dk_Mo_flow 67 rfl) (by decide) ?_
      exact ww_lv [1, 2, 3, 4, 0] rfl (t_Mo_flow_B212 C hR hRm hnL v0 v1 v2 v3 1 ho_v0 σ1 h)
set_option maxHeartbeats 4000000 in
set_option maxRecDepth 100000 in
theorem t_Mo_flow_B20 {k : Cfg} {res : Int32 × St} (C : Cx k prog_14_method_31_code "BundleHouseModel") (hR : RI k .int res) (hRm : k.2.2.2.1 = rm_Mo_flow) (hnL : k.2.2.2.2.2.2.2.2.2.2.2.1 = 7) (v0 : Nat) (v1 : Int32) (v2 : Int32) (v3 : Int32) (t0 : Int32) (ho_v0 : kd v0 = 12) (σ : St) (h : Mo_flow_B20 v0 v1 v2 v3 t0 σ = some res) : WW k 20 [(0, .ref (ad k v0)), (1, .int v1), (2, .int v2), (3, .int v3)] [.int t0] σ := by
  unfold Mo_flow_B20 at h
  refine ww_istore C [(4, .int t0), (0, .ref (ad k v0)), (1, .int v1), (2, .int v2), (3, .int v3)] hnL (lt_ rfl) rfl (dq dk_Mo_flow 11 rfl) ?_
  refine ww_iload_n C 2 rfl rfl (dq dk_Mo_flow 12 rfl) ?_
  by_cases e0_0 : v1 = 0
  · rw [if_pos e0_0] at h
    refine ww_tabIn C 72 (dq dk_Mo_flow 13 rfl) (by rw [e0_0]; decide) (by rw [e0_0]; decide) (by rw [e0_0]; rfl) (by decide) ?_
    refine ww_iload C 0 rfl (dq dk_Mo_flow 14 rfl) ?_
    refine ww_if_eq C 90 (dq dk_Mo_flow 15 rfl) (by decide) h (fun h => ?_) (fun h => ?_)
    · refine ww_iconst C (dq dk_Mo_flow 23 rfl) ic_0 ?_
      refine ww_istore C [(5, .int 0), (4, .int t0), (0, .ref (ad k v0)), (1, .int v1), (2, .int v2), (3, .int v3)] hnL (lt_ rfl) rfl (dq dk_Mo_flow 24 rfl) ?_
      refine ww_goto C 212 (dq dk_Mo_flow 25 rfl) (by decide) ?_
      exact ww_lv [2, 3, 4, 5, 0] rfl (t_Mo_flow_B212 C hR hRm hnL v0 v1 v2 v3 0 ho_v0 σ h)
    · refine ww_iload_n C 4 rfl rfl (dq dk_Mo_flow 16 rfl) ?_
      refine ww_if_eq C 86 (dq dk_Mo_flow 17 rfl) (by decide) h (fun h => ?_) (fun h => ?_)
      · refine ww_iconst C (dq dk_Mo_flow 21 rfl) ic_1 ?_
        refine ww_goto C 91 (dq dk_Mo_flow 22 rfl) (by decide) ?_
        refine ww_istore C [(5, .int 1), (4, .int t0), (0, .ref (ad k v0)), (1, .int v1), (2, .int v2), (3, .int v3)] hnL (lt_ rfl) rfl (dq dk_Mo_flow 24 rfl) ?_
        refine ww_goto C 212 (dq dk_Mo_flow 25 rfl) (by decide) ?_
        exact ww_lv [2, 3, 4, 5, 0] rfl (t_Mo_flow_B212 C hR hRm hnL v0 v1 v2 v3 1 ho_v0 σ h)
      · refine ww_iload_n C 4 rfl rfl (dq dk_Mo_flow 18 rfl) ?_
        refine ww_iconst C (dq dk_Mo_flow 19 rfl) ic_1 ?_
        refine ww_icmp_ne C 90 (dq dk_Mo_flow 20 rfl) (by decide) h (fun h => ?_) (fun h => ?_)
        · refine ww_iconst C (dq dk_Mo_flow 23 rfl) ic_0 ?_
          refine ww_istore C [(5, .int 0), (4, .int t0), (0, .ref (ad k v0)), (1, .int v1), (2, .int v2), (3, .int v3)] hnL (lt_ rfl) rfl (dq dk_Mo_flow 24 rfl) ?_
          refine ww_goto C 212 (dq dk_Mo_flow 25 rfl) (by decide) ?_
          exact ww_lv [2, 3, 4, 5, 0] rfl (t_Mo_flow_B212 C hR hRm hnL v0 v1 v2 v3 0 ho_v0 σ h)
        · refine ww_iconst C (dq dk_Mo_flow 21 rfl) ic_1 ?_
          refine ww_goto C 91 (dq dk_Mo_flow 22 rfl) (by decide) ?_
          refine ww_istore C [(5, .int 1), (4, .int t0), (0, .ref (ad k v0)), (1, .int v1), (2, .int v2), (3, .int v3)] hnL (lt_ rfl) rfl (dq dk_Mo_flow 24 rfl) ?_
          refine ww_goto C 212 (dq dk_Mo_flow 25 rfl) (by decide) ?_
          exact ww_lv [2, 3, 4, 5, 0] rfl (t_Mo_flow_B212 C hR hRm hnL v0 v1 v2 v3 1 ho_v0 σ h)
  rw [if_neg e0_0] at h
  by_cases e1_1 : v1 = 1
  · rw [if_pos e1_1] at h
    refine ww_tabIn C 96 (dq dk_Mo_flow 13 rfl) (by rw [e1_1]; decide) (by rw [e1_1]; decide) (by rw [e1_1]; rfl) (by decide) ?_
    refine ww_iload C 0 rfl (dq dk_Mo_flow 26 rfl) ?_
    refine ww_istore C [(5, .int t0), (4, .int t0), (0, .ref (ad k v0)), (1, .int v1), (2, .int v2), (3, .int v3)] hnL (lt_ rfl) rfl (dq dk_Mo_flow 27 rfl) ?_
    refine ww_goto C 212 (dq dk_Mo_flow 28 rfl) (by decide) ?_
    exact ww_lv [2, 3, 4, 5, 0] rfl (t_Mo_flow_B212 C hR hRm hnL v0 v1 v2 v3 t0 ho_v0 σ h)
  rw [if_neg e1_1] at h
  by_cases e2_2 : v1 = 2
  · rw [if_pos e2_2] at h
    refine ww_tabIn C 103 (dq dk_Mo_flow 13 rfl) (by rw [e2_2]; decide) (by rw [e2_2]; decide) (by rw [e2_2]; rfl) (by decide) ?_
    refine ww_iload C 0 rfl (dq dk_Mo_flow 29 rfl) ?_
    refine ww_if_eq C 134 (dq dk_Mo_flow 30 rfl) (by decide) h (fun h => ?_) (fun h => ?_)
    · refine ww_iconst C (dq dk_Mo_flow 44 rfl) ic_0 ?_
      refine ww_istore C [(5, .int 0), (4, .int t0), (0, .ref (ad k v0)), (1, .int v1), (2, .int v2), (3, .int v3)] hnL (lt_ rfl) rfl (dq dk_Mo_flow 45 rfl) ?_
      refine ww_goto C 212 (dq dk_Mo_flow 46 rfl) (by decide) ?_
      exact ww_lv [2, 3, 4, 5, 0] rfl (t_Mo_flow_B212 C hR hRm hnL v0 v1 v2 v3 0 ho_v0 σ h)
    · refine ww_iload_n C 4 rfl rfl (dq dk_Mo_flow 31 rfl) ?_
      refine ww_if_lt C 134 (dq dk_Mo_flow 32 rfl) (by decide) h (fun h => ?_) (fun h => ?_)
      · refine ww_iconst C (dq dk_Mo_flow 44 rfl) ic_0 ?_
        refine ww_istore C [(5, .int 0), (4, .int t0), (0, .ref (ad k v0)), (1, .int v1), (2, .int v2), (3, .int v3)] hnL (lt_ rfl) rfl (dq dk_Mo_flow 45 rfl) ?_
        refine ww_goto C 212 (dq dk_Mo_flow 46 rfl) (by decide) ?_
        exact ww_lv [2, 3, 4, 5, 0] rfl (t_Mo_flow_B212 C hR hRm hnL v0 v1 v2 v3 0 ho_v0 σ h)
      · refine ww_iload_n C 4 rfl rfl (dq dk_Mo_flow 33 rfl) ?_
        refine ww_bipush C (dq dk_Mo_flow 34 rfl) bp_16 ?_
        refine ww_icmp_ge C 134 (dq dk_Mo_flow 35 rfl) (by decide) h (fun h => ?_) (fun h => ?_)
        · refine ww_iconst C (dq dk_Mo_flow 44 rfl) ic_0 ?_
          refine ww_istore C [(5, .int 0), (4, .int t0), (0, .ref (ad k v0)), (1, .int v1), (2, .int v2), (3, .int v3)] hnL (lt_ rfl) rfl (dq dk_Mo_flow 45 rfl) ?_
          refine ww_goto C 212 (dq dk_Mo_flow 46 rfl) (by decide) ?_
          exact ww_lv [2, 3, 4, 5, 0] rfl (t_Mo_flow_B212 C hR hRm hnL v0 v1 v2 v3 0 ho_v0 σ h)
        · refine ww_iload_n C 4 rfl rfl (dq dk_Mo_flow 36 rfl) ?_
          refine ww_bipush C (dq dk_Mo_flow 37 rfl) bp_10 ?_
          refine ww_icmp_eq C 134 (dq dk_Mo_flow 38 rfl) (by decide) h (fun h => ?_) (fun h => ?_)
          · refine ww_iconst C (dq dk_Mo_flow 44 rfl) ic_0 ?_
            refine ww_istore C [(5, .int 0), (4, .int t0), (0, .ref (ad k v0)), (1, .int v1), (2, .int v2), (3, .int v3)] hnL (lt_ rfl) rfl (dq dk_Mo_flow 45 rfl) ?_
            refine ww_goto C 212 (dq dk_Mo_flow 46 rfl) (by decide) ?_
            exact ww_lv [2, 3, 4, 5, 0] rfl (t_Mo_flow_B212 C hR hRm hnL v0 v1 v2 v3 0 ho_v0 σ h)
          · refine ww_iload_n C 4 rfl rfl (dq dk_Mo_flow 39 rfl) ?_
            refine ww_bipush C (dq dk_Mo_flow 40 rfl) bp_11 ?_
            refine ww_icmp_eq C 134 (dq dk_Mo_flow 41 rfl) (by decide) h (fun h => ?_) (fun h => ?_)
            · refine ww_iconst C (dq dk_Mo_flow 44 rfl) ic_0 ?_
              refine ww_istore C [(5, .int 0), (4, .int t0), (0, .ref (ad k v0)), (1, .int v1), (2, .int v2), (3, .int v3)] hnL (lt_ rfl) rfl (dq dk_Mo_flow 45 rfl) ?_
              refine ww_goto C 212 (dq dk_Mo_flow 46 rfl) (by decide) ?_
              exact ww_lv [2, 3, 4, 5, 0] rfl (t_Mo_flow_B212 C hR hRm hnL v0 v1 v2 v3 0 ho_v0 σ h)
            · refine ww_iconst C (dq dk_Mo_flow 42 rfl) ic_1 ?_
              refine ww_goto C 135 (dq dk_Mo_flow 43 rfl) (by decide) ?_
              refine ww_istore C [(5, .int 1), (4, .int t0), (0, .ref (ad k v0)), (1, .int v1), (2, .int v2), (3, .int v3)] hnL (lt_ rfl) rfl (dq dk_Mo_flow 45 rfl) ?_
              refine ww_goto C 212 (dq dk_Mo_flow 46 rfl) (by decide) ?_
              exact ww_lv [2, 3, 4, 5, 0] rfl (t_Mo_flow_B212 C hR hRm hnL v0 v1 v2 v3 1 ho_v0 σ h)
  rw [if_neg e2_2] at h
  by_cases e3_3 : v1 = 3
  · rw [if_pos e3_3] at h
    refine ww_tabIn C 96 (dq dk_Mo_flow 13 rfl) (by rw [e3_3]; decide) (by rw [e3_3]; decide) (by rw [e3_3]; rfl) (by decide) ?_
    refine ww_iload C 0 rfl (dq dk_Mo_flow 26 rfl) ?_
    refine ww_istore C [(5, .int t0), (4, .int t0), (0, .ref (ad k v0)), (1, .int v1), (2, .int v2), (3, .int v3)] hnL (lt_ rfl) rfl (dq dk_Mo_flow 27 rfl) ?_
    refine ww_goto C 212 (dq dk_Mo_flow 28 rfl) (by decide) ?_
    exact ww_lv [2, 3, 4, 5, 0] rfl (t_Mo_flow_B212 C hR hRm hnL v0 v1 v2 v3 t0 ho_v0 σ h)
  rw [if_neg e3_3] at h
  by_cases e4_4 : v1 = 4
  · rw [if_pos e4_4] at h
    refine ww_tabIn C 140 (dq dk_Mo_flow 13 rfl) (by rw [e4_4]; decide) (by rw [e4_4]; decide) (by rw [e4_4]; rfl) (by decide) ?_
    refine ww_iload_n C 3 rfl rfl (dq dk_Mo_flow 47 rfl) ?_
    refine ww_if_lt C 153 (dq dk_Mo_flow 48 rfl) (by decide) h (fun h => ?_) (fun h => ?_)
    · refine ww_iconst C (dq dk_Mo_flow 54 rfl) ic_0 ?_
      refine ww_istore C [(5, .int 0), (4, .int t0), (0, .ref (ad k v0)), (1, .int v1), (2, .int v2), (3, .int v3)] hnL (lt_ rfl) rfl (dq dk_Mo_flow 55 rfl) ?_
      refine ww_goto C 212 (dq dk_Mo_flow 56 rfl) (by decide) ?_
      exact ww_lv [2, 3, 4, 5, 0] rfl (t_Mo_flow_B212 C hR hRm hnL v0 v1 v2 v3 0 ho_v0 σ h)
    · refine ww_iload_n C 3 rfl rfl (dq dk_Mo_flow 49 rfl) ?_
      refine ww_iconst C (dq dk_Mo_flow 50 rfl) ic_4 ?_
      refine ww_icmp_ge C 153 (dq dk_Mo_flow 51 rfl) (by decide) h (fun h => ?_) (fun h => ?_)
      · refine ww_iconst C (dq dk_Mo_flow 54 rfl) ic_0 ?_
        refine ww_istore C [(5, .int 0), (4, .int t0), (0, .ref (ad k v0)), (1, .int v1), (2, .int v2), (3, .int v3)] hnL (lt_ rfl) rfl (dq dk_Mo_flow 55 rfl) ?_
        refine ww_goto C 212 (dq dk_Mo_flow 56 rfl) (by decide) ?_
        exact ww_lv [2, 3, 4, 5, 0] rfl (t_Mo_flow_B212 C hR hRm hnL v0 v1 v2 v3 0 ho_v0 σ h)
      · refine ww_iconst C (dq dk_Mo_flow 52 rfl) ic_1 ?_
        refine ww_goto C 154 (dq dk_Mo_flow 53 rfl) (by decide) ?_
        refine ww_istore C [(5, .int 1), (4, .int t0), (0, .ref (ad k v0)), (1, .int v1), (2, .int v2), (3, .int v3)] hnL (lt_ rfl) rfl (dq dk_Mo_flow 55 rfl) ?_
        refine ww_goto C 212 (dq dk_Mo_flow 56 rfl) (by decide) ?_
        exact ww_lv [2, 3, 4, 5, 0] rfl (t_Mo_flow_B212 C hR hRm hnL v0 v1 v2 v3 1 ho_v0 σ h)
  rw [if_neg e4_4] at h
  by_cases e5_5 : v1 = 5
  · rw [if_pos e5_5] at h
    refine ww_tabIn C 159 (dq dk_Mo_flow 13 rfl) (by rw [e5_5]; decide) (by rw [e5_5]; decide) (by rw [e5_5]; rfl) (by decide) ?_
    exact ww_lv [1, 2, 3, 4] rfl (t_Mo_flow_B159 C hR hRm hnL v0 v1 v2 v3 ho_v0 σ h)
  rw [if_neg e5_5] at h
  by_cases e6_6 : v1 = 6
  · rw [if_pos e6_6] at h
    refine ww_tabIn C 159 (dq dk_Mo_flow 13 rfl) (by rw [e6_6]; decide) (by rw [e6_6]; decide) (by rw [e6_6]; rfl) (by decide) ?_
    exact ww_lv [1, 2, 3, 4] rfl (t_Mo_flow_B159 C hR hRm hnL v0 v1 v2 v3 ho_v0 σ h)
  rw [if_neg e6_6] at h
  by_cases e7_7 : v1 = 7
  · rw [if_pos e7_7] at h
    refine ww_tabIn C 181 (dq dk_Mo_flow 13 rfl) (by rw [e7_7]; decide) (by rw [e7_7]; decide) (by rw [e7_7]; rfl) (by decide) ?_
    refine ww_iconst C (dq dk_Mo_flow 68 rfl) ic_1 ?_
    refine ww_istore C [(5, .int 1), (4, .int t0), (0, .ref (ad k v0)), (1, .int v1), (2, .int v2), (3, .int v3)] hnL (lt_ rfl) rfl (dq dk_Mo_flow 69 rfl) ?_
    refine ww_goto C 212 (dq dk_Mo_flow 70 rfl) (by decide) ?_
    exact ww_lv [2, 3, 4, 5, 0] rfl (t_Mo_flow_B212 C hR hRm hnL v0 v1 v2 v3 1 ho_v0 σ h)
  rw [if_neg e7_7] at h
  by_cases e8_8 : v1 = 8
  · rw [if_pos e8_8] at h
    refine ww_tabIn C 187 (dq dk_Mo_flow 13 rfl) (by rw [e8_8]; decide) (by rw [e8_8]; decide) (by rw [e8_8]; rfl) (by decide) ?_
    refine ww_iload C 0 rfl (dq dk_Mo_flow 71 rfl) ?_
    refine ww_if_eq C 203 (dq dk_Mo_flow 72 rfl) (by decide) h (fun h => ?_) (fun h => ?_)
    · refine ww_iconst C (dq dk_Mo_flow 78 rfl) ic_0 ?_
      refine ww_istore C [(5, .int 0), (4, .int t0), (0, .ref (ad k v0)), (1, .int v1), (2, .int v2), (3, .int v3)] hnL (lt_ rfl) rfl (dq dk_Mo_flow 79 rfl) ?_
      refine ww_goto C 212 (dq dk_Mo_flow 80 rfl) (by decide) ?_
      exact ww_lv [2, 3, 4, 5, 0] rfl (t_Mo_flow_B212 C hR hRm hnL v0 v1 v2 v3 0 ho_v0 σ h)
    · refine ww_iload_n C 4 rfl rfl (dq dk_Mo_flow 73 rfl) ?_
      refine ww_cSi (st := []) C (c_Mo_isRegister v3) cw_Mo_isRegister g_7_94 hRm ⟨⟨rfl, rfl⟩, le_ rfl, le_ rfl⟩ rfl rfl rfl (le_ rfl) (dq dk_Mo_flow 74 rfl) h (fun x2 σ1 h => ?_)
      refine ww_if_eq C 203 (dq dk_Mo_flow 75 rfl) (by decide) h (fun h => ?_) (fun h => ?_)
      · refine ww_iconst C (dq dk_Mo_flow 78 rfl) ic_0 ?_
        refine ww_istore C [(5, .int 0), (4, .int t0), (0, .ref (ad k v0)), (1, .int v1), (2, .int v2), (3, .int v3)] hnL (lt_ rfl) rfl (dq dk_Mo_flow 79 rfl) ?_
        refine ww_goto C 212 (dq dk_Mo_flow 80 rfl) (by decide) ?_
        exact ww_lv [2, 3, 4, 5, 0] rfl (t_Mo_flow_B212 C hR hRm hnL v0 v1 v2 v3 0 ho_v0 σ1 h)
      · refine ww_iconst C (dq dk_Mo_flow 76 rfl) ic_1 ?_
        refine ww_goto C 204 (dq dk_Mo_flow 77 rfl) (by decide) ?_
        refine ww_istore C [(5, .int 1), (4, .int t0), (0, .ref (ad k v0)), (1, .int v1), (2, .int v2), (3, .int v3)] hnL (lt_ rfl) rfl (dq dk_Mo_flow 79 rfl) ?_
        refine ww_goto C 212 (dq dk_Mo_flow 80 rfl) (by decide) ?_
        exact ww_lv [2, 3, 4, 5, 0] rfl (t_Mo_flow_B212 C hR hRm hnL v0 v1 v2 v3 1 ho_v0 σ1 h)
  rw [if_neg e8_8] at h
  have ne0_0 := lv_neT (a := 0) e0_0 (by decide)
  have ne1_1 := lv_neT (a := 1) e1_1 (by decide)
  have ne2_2 := lv_neT (a := 2) e2_2 (by decide)
  have ne3_3 := lv_neT (a := 3) e3_3 (by decide)
  have ne4_4 := lv_neT (a := 4) e4_4 (by decide)
  have ne5_5 := lv_neT (a := 5) e5_5 (by decide)
  have ne6_6 := lv_neT (a := 6) e6_6 (by decide)
  have ne7_7 := lv_neT (a := 7) e7_7 (by decide)
  have ne8_8 := lv_neT (a := 8) e8_8 (by decide)
  refine ww_tabOut C 209 (dq dk_Mo_flow 13 rfl) (by omega) (by decide) ?_
  refine ww_iconst C (dq dk_Mo_flow 81 rfl) ic_0 ?_
  refine ww_istore C [(5, .int 0), (4, .int t0), (0, .ref (ad k v0)), (1, .int v1), (2, .int v2), (3, .int v3)] hnL (lt_ rfl) rfl (dq dk_Mo_flow 82 rfl) ?_
  exact ww_lv [2, 3, 4, 5, 0] rfl (t_Mo_flow_B212 C hR hRm hnL v0 v1 v2 v3 0 ho_v0 σ h)
set_option maxHeartbeats 4000000 in
set_option maxRecDepth 100000 in
theorem c_Mo_flow (v0 : Nat) (ho_v0 : kd v0 = 12) (v1 : Int32) (v2 : Int32) (v3 : Int32) : MI y_Mo_flow rm_Mo_flow prog_14_method_31_code 7 .int (fun a => [.ref (a v0), .int v1, .int v2, .int v3]) (Mo_flow v0 v1 v2 v3) := by
  refine mi_of (by decide) (fun _ => le_ rfl) ?_
  intro k res σ C hR hRm hnL h
  unfold Mo_flow at h
  show WW k 0 [(0, .ref (ad k v0)), (1, .int v1), (2, .int v2), (3, .int v3)] [] σ
  refine ww_aload_n C 0 rfl rfl (dq dk_Mo_flow 0 rfl) ?_
  refine ww_iconst C (dq dk_Mo_flow 1 rfl) ic_0 ?_
  refine ww_puti C ko_Mo 0 ho_v0 (lt_ rfl) g_6_50 rfl rfl rfl rfl (dq dk_Mo_flow 2 rfl) h (fun σ1 h => ?_)
  refine ww_iload_n C 2 rfl rfl (dq dk_Mo_flow 3 rfl) ?_
  refine ww_if_lt C 19 (dq dk_Mo_flow 4 rfl) (by decide) h (fun h => ?_) (fun h => ?_)
  · refine ww_iconst C (dq dk_Mo_flow 10 rfl) ic_0 ?_
    exact ww_lv [0, 1, 2, 3] rfl (t_Mo_flow_B20 C hR hRm hnL v0 v1 v2 v3 0 ho_v0 σ1 h)
  · refine ww_iload_n C 2 rfl rfl (dq dk_Mo_flow 5 rfl) ?_
    refine ww_bipush C (dq dk_Mo_flow 6 rfl) bp_40 ?_
    refine ww_icmp_ge C 19 (dq dk_Mo_flow 7 rfl) (by decide) h (fun h => ?_) (fun h => ?_)
    · refine ww_iconst C (dq dk_Mo_flow 10 rfl) ic_0 ?_
      exact ww_lv [0, 1, 2, 3] rfl (t_Mo_flow_B20 C hR hRm hnL v0 v1 v2 v3 0 ho_v0 σ1 h)
    · refine ww_iconst C (dq dk_Mo_flow 8 rfl) ic_1 ?_
      refine ww_goto C 20 (dq dk_Mo_flow 9 rfl) (by decide) ?_
      exact ww_lv [0, 1, 2, 3] rfl (t_Mo_flow_B20 C hR hRm hnL v0 v1 v2 v3 1 ho_v0 σ1 h)
abbrev y_Mo_clear : MethodName := ⟨"BundleHouseModel", "clear", "()I"⟩
def dl_Mo_clear : List (Nat × Instr × Nat) := [(0, .aload_n 0, 1), (1, .iconst 0, 1), (2, .putfield 105, 3), (5, .aload_n 0, 1), (6, .getfield 208, 3), (9, .istore_n 1, 1), (10, .aload_n 0, 1), (11, .iconst 0, 1), (12, .putfield 208, 3), (15, .iload_n 1, 1), (16, .ireturn, 1)]
set_option maxRecDepth 100000 in
theorem dk_Mo_clear : ∀ q ∈ dl_Mo_clear, decode prog_14_method_32_code q.1 = .ok q.2 := by decide +kernel
abbrev rm_Mo_clear : Room := { frames := 0, cells := 0, slots := 0, locals := 0 }
theorem cw_Mo_clear : CWV y_Mo_clear prog_14_method_32_code 2 (some .int) 0 := ⟨⟨g_7_113, g_1_13, by decide, by decide, by decide +kernel⟩, g_7_111, g_7_112⟩
set_option maxHeartbeats 4000000 in
set_option maxRecDepth 100000 in
theorem c_Mo_clear (v0 : Nat) (ho_v0 : kd v0 = 12) : MI y_Mo_clear rm_Mo_clear prog_14_method_32_code 2 .int (fun a => [.ref (a v0)]) (Mo_clear v0) := by
  refine mi_of (by decide) (fun _ => le_ rfl) ?_
  intro k res σ C hR hRm hnL h
  unfold Mo_clear at h
  show WW k 0 [(0, .ref (ad k v0))] [] σ
  refine ww_aload_n C 0 rfl rfl (dq dk_Mo_clear 0 rfl) ?_
  refine ww_iconst C (dq dk_Mo_clear 1 rfl) ic_0 ?_
  refine ww_puti C ko_Mo 0 ho_v0 (lt_ rfl) g_6_50 rfl rfl rfl rfl (dq dk_Mo_clear 2 rfl) h (fun σ1 h => ?_)
  refine ww_aload_n C 0 rfl rfl (dq dk_Mo_clear 3 rfl) ?_
  refine ww_geti C ko_Mo 8 ho_v0 (lt_ rfl) g_6_58 rfl rfl (dq dk_Mo_clear 4 rfl) ?_
  refine ww_nmi h (fun x2 h => ?_)
  refine ww_istore_n C [(1, .int x2), (0, .ref (ad k v0))] rfl hnL (lt_ rfl) rfl (dq dk_Mo_clear 5 rfl) ?_
  refine ww_aload_n C 1 rfl rfl (dq dk_Mo_clear 6 rfl) ?_
  refine ww_iconst C (dq dk_Mo_clear 7 rfl) ic_0 ?_
  refine ww_puti C ko_Mo 8 ho_v0 (lt_ rfl) g_6_58 rfl rfl rfl rfl (dq dk_Mo_clear 8 rfl) h (fun σ3 h => ?_)
  refine ww_iload_n C 0 rfl rfl (dq dk_Mo_clear 9 rfl) ?_
  exact ww_iret C hR (dq dk_Mo_clear 10 rfl) h
abbrev y_Mo_put : MethodName := ⟨"BundleHouseModel", "put", "(I)V"⟩
def dl_Mo_put : List (Nat × Instr × Nat) := [(0, .aload_n 0, 1), (1, .getfield 60, 3), (4, .aload_n 0, 1), (5, .getfield 229, 3), (8, .iload_n 1, 1), (9, .sipush 255, 3), (12, .iand, 1), (13, .iastore, 1), (14, .aload_n 0, 1), (15, .dup, 1), (16, .getfield 229, 3), (19, .iconst 1, 1), (20, .iadd, 1), (21, .putfield 229, 3), (24, .return_, 1)]
set_option maxRecDepth 100000 in
theorem dk_Mo_put : ∀ q ∈ dl_Mo_put, decode prog_14_method_33_code q.1 = .ok q.2 := by decide +kernel
abbrev rm_Mo_put : Room := { frames := 0, cells := 0, slots := 0, locals := 0 }
theorem cw_Mo_put : CWV y_Mo_put prog_14_method_33_code 2 none 1 := ⟨⟨g_7_141, g_1_13, by decide, by decide, by decide +kernel⟩, g_7_140, gs_6_2⟩
set_option maxHeartbeats 4000000 in
set_option maxRecDepth 100000 in
theorem c_Mo_put (v0 : Nat) (ho_v0 : kd v0 = 12) (v1 : Int32) : MV y_Mo_put rm_Mo_put prog_14_method_33_code 2 (fun a => [.ref (a v0), .int v1]) (Mo_put v0 v1) := by
  refine mv_of (by decide) (fun _ => le_ rfl) ?_
  intro k res σ C hR hRm hnL h
  unfold Mo_put at h
  show WW k 0 [(0, .ref (ad k v0)), (1, .int v1)] [] σ
  refine ww_aload_n C 0 rfl rfl (dq dk_Mo_put 0 rfl) ?_
  refine ww_getr C ko_Mo 24 ho_v0 (lt_ rfl) g_6_74 rfl rfl (dq dk_Mo_put 1 rfl) ?_
  refine ww_aload_n C 0 rfl rfl (dq dk_Mo_put 2 rfl) ?_
  refine ww_geti C ko_Mo 25 ho_v0 (lt_ rfl) g_6_75 rfl rfl (dq dk_Mo_put 3 rfl) ?_
  refine ww_iload_n C 1 rfl rfl (dq dk_Mo_put 4 rfl) ?_
  refine ww_sipush C (dq dk_Mo_put 5 rfl) sp_255 ?_
  refine ww_iand C (dq dk_Mo_put 6 rfl) ?_
  refine ww_iast C (kc_Mo_24 _ ho_v0).1 (kc_Mo_24 _ ho_v0).2 (dq dk_Mo_put 7 rfl) h (fun σ1 h => ?_)
  refine ww_aload_n C 0 rfl rfl (dq dk_Mo_put 8 rfl) ?_
  refine ww_dup C rfl (dq dk_Mo_put 9 rfl) ?_
  refine ww_geti C ko_Mo 25 ho_v0 (lt_ rfl) g_6_75 rfl rfl (dq dk_Mo_put 10 rfl) ?_
  refine ww_iconst C (dq dk_Mo_put 11 rfl) ic_1 ?_
  refine ww_iadd C (dq dk_Mo_put 12 rfl) ?_
  refine ww_puti C ko_Mo 25 ho_v0 (lt_ rfl) g_6_75 rfl rfl rfl rfl (dq dk_Mo_put 13 rfl) h (fun σ2 h => ?_)
  exact ww_vret C hR (dq dk_Mo_put 14 rfl) h
abbrev y_Mo_putFour : MethodName := ⟨"BundleHouseModel", "putFour", "(I)V"⟩
def dl_Mo_putFour : List (Nat × Instr × Nat) := [(0, .iconst 0, 1), (1, .istore_n 2, 1), (2, .iload_n 2, 1), (3, .bipush 32, 2), (5, .if_icmp .ge 16, 3), (8, .aload_n 0, 1), (9, .iload_n 1, 1), (10, .iload_n 2, 1), (11, .ishr, 1), (12, .invokevirtual 232, 3), (15, .iinc 2 8, 3), (18, .goto (-16), 3), (21, .return_, 1)]
set_option maxRecDepth 100000 in
theorem dk_Mo_putFour : ∀ q ∈ dl_Mo_putFour, decode prog_14_method_34_code q.1 = .ok q.2 := by decide +kernel
abbrev rm_Mo_putFour : Room := { frames := 1, cells := 0, slots := 0, locals := 21 }
theorem cw_Mo_putFour : CWV y_Mo_putFour prog_14_method_34_code 3 none 1 := ⟨⟨g_7_156, g_1_13, by decide, by decide, by decide +kernel⟩, g_7_155, gs_6_5⟩
set_option maxHeartbeats 4000000 in
set_option maxRecDepth 100000 in
theorem t_Mo_putFour_B2 {k : Cfg} {res : St} (C : Cx k prog_14_method_34_code "BundleHouseModel") (hR : RV k res) (hRm : k.2.2.2.1 = rm_Mo_putFour) (hnL : k.2.2.2.2.2.2.2.2.2.2.2.1 = 3) : ∀ (n : Nat) (v0 : Nat) (v1 : Int32) (v2 : Int32) (ho_v0 : kd v0 = 12) (σ : St), Mo_putFour_B2 n v0 v1 v2 σ = some res → WW k 2 [(0, .ref (ad k v0)), (1, .int v1), (2, .int v2)] [] σ := by
  intro n
  induction n with
  | zero =>
    intro v0 v1 v2 ho_v0 σ h
    have h : (none : Option (St)) = some res := h
    cases h
  | succ n ih =>
    intro v0 v1 v2 ho_v0 σ h
    unfold Mo_putFour_B2 at h
    refine ww_iload_n C 2 rfl rfl (dq dk_Mo_putFour 2 rfl) ?_
    refine ww_bipush C (dq dk_Mo_putFour 3 rfl) bp_32 ?_
    refine ww_icmp_ge C 21 (dq dk_Mo_putFour 4 rfl) (by decide) h (fun h => ?_) (fun h => ?_)
    · exact ww_vret C hR (dq dk_Mo_putFour 12 rfl) h
    · refine ww_aload_n C 0 rfl rfl (dq dk_Mo_putFour 5 rfl) ?_
      refine ww_iload_n C 1 rfl rfl (dq dk_Mo_putFour 6 rfl) ?_
      refine ww_iload_n C 2 rfl rfl (dq dk_Mo_putFour 7 rfl) ?_
      refine ww_ishr C (dq dk_Mo_putFour 8 rfl) ?_
      refine ww_cVv (st := []) C (c_Mo_put v0 ho_v0 (shr v1 v2)) cw_Mo_put ho_v0 (lt_ rfl) rfl g_7_138 hRm ⟨⟨rfl, rfl⟩, le_ rfl, le_ rfl⟩ rfl rfl rfl (le_ rfl) (dq dk_Mo_putFour 9 rfl) h (fun σ1 h => ?_)
      refine ww_iinc C 2 (fun z => [(2, .int z), (0, .ref (ad k v0)), (1, .int v1)]) rfl ic_8 hnL (lt_ rfl) (fun _ => rfl) (dq dk_Mo_putFour 10 rfl) h (fun x2 h => ?_)
      refine ww_goto C 2 (dq dk_Mo_putFour 11 rfl) (by decide) ?_
      exact ww_lv [1, 2, 0] rfl (ih v0 v1 x2 ho_v0 σ1 h)
set_option maxHeartbeats 4000000 in
set_option maxRecDepth 100000 in
theorem c_Mo_putFour (v0 : Nat) (ho_v0 : kd v0 = 12) (v1 : Int32) : MV y_Mo_putFour rm_Mo_putFour prog_14_method_34_code 3 (fun a => [.ref (a v0), .int v1]) (Mo_putFour v0 v1) := by
  refine mv_of (by decide) (fun _ => le_ rfl) ?_
  intro k res σ C hR hRm hnL h
  unfold Mo_putFour at h
  show WW k 0 [(0, .ref (ad k v0)), (1, .int v1)] [] σ
  refine ww_iconst C (dq dk_Mo_putFour 0 rfl) ic_0 ?_
  refine ww_istore_n C [(2, .int 0), (0, .ref (ad k v0)), (1, .int v1)] rfl hnL (lt_ rfl) rfl (dq dk_Mo_putFour 1 rfl) ?_
  exact ww_lv [1, 2, 0] rfl (t_Mo_putFour_B2 C hR hRm hnL FU v0 v1 0 ho_v0 σ h)
abbrev y_Mo_isSmall : MethodName := ⟨"BundleHouseModel", "isSmall", "(I)Z"⟩
def dl_Mo_isSmall : List (Nat × Instr × Nat) := [(0, .iload_n 0, 1), (1, .bipush (-128), 2), (3, .if_icmp .lt 13, 3), (6, .iload_n 0, 1), (7, .bipush 127, 2), (9, .if_icmp .gt 7, 3), (12, .iconst 1, 1), (13, .goto 4, 3), (16, .iconst 0, 1), (17, .ireturn, 1)]
set_option maxRecDepth 100000 in
theorem dk_Mo_isSmall : ∀ q ∈ dl_Mo_isSmall, decode prog_14_method_35_code q.1 = .ok q.2 := by decide +kernel
abbrev rm_Mo_isSmall : Room := { frames := 0, cells := 0, slots := 0, locals := 0 }
theorem cw_Mo_isSmall : CWS y_Mo_isSmall prog_14_method_35_code 1 (some .boolean) 1 := ⟨⟨g_7_159, g_1_13, by decide, by decide, by decide +kernel⟩, g_7_158⟩
set_option maxHeartbeats 4000000 in
set_option maxRecDepth 100000 in
theorem c_Mo_isSmall (v0 : Int32) : MI y_Mo_isSmall rm_Mo_isSmall prog_14_method_35_code 1 .boolean (fun a => [.int v0]) (Mo_isSmall v0) := by
  refine mi_of (by decide) (fun _ => le_ rfl) ?_
  intro k res σ C hR hRm hnL h
  unfold Mo_isSmall at h
  show WW k 0 [(0, .int v0)] [] σ
  refine ww_iload_n C 0 rfl rfl (dq dk_Mo_isSmall 0 rfl) ?_
  refine ww_bipush C (dq dk_Mo_isSmall 1 rfl) bp_m128 ?_
  refine ww_icmp_lt C 16 (dq dk_Mo_isSmall 2 rfl) (by decide) h (fun h => ?_) (fun h => ?_)
  · refine ww_iconst C (dq dk_Mo_isSmall 8 rfl) ic_0 ?_
    exact ww_zretL C hR (dq dk_Mo_isSmall 9 rfl) (Or.inl rfl) h
  · refine ww_iload_n C 0 rfl rfl (dq dk_Mo_isSmall 3 rfl) ?_
    refine ww_bipush C (dq dk_Mo_isSmall 4 rfl) bp_127 ?_
    refine ww_icmp_gt C 16 (dq dk_Mo_isSmall 5 rfl) (by decide) h (fun h => ?_) (fun h => ?_)
    · refine ww_iconst C (dq dk_Mo_isSmall 8 rfl) ic_0 ?_
      exact ww_zretL C hR (dq dk_Mo_isSmall 9 rfl) (Or.inl rfl) h
    · refine ww_iconst C (dq dk_Mo_isSmall 6 rfl) ic_1 ?_
      refine ww_goto C 17 (dq dk_Mo_isSmall 7 rfl) (by decide) ?_
      exact ww_zretL C hR (dq dk_Mo_isSmall 9 rfl) (Or.inr rfl) h
abbrev y_Mo_putRegister : MethodName := ⟨"BundleHouseModel", "putRegister", "(II)V"⟩
def dl_Mo_putRegister : List (Nat × Instr × Nat) := [(0, .aload_n 0, 1), (1, .sipush 192, 3), (4, .bipush 8, 2), (6, .iload_n 1, 1), (7, .imul, 1), (8, .iadd, 1), (9, .iload_n 2, 1), (10, .iadd, 1), (11, .invokevirtual 232, 3), (14, .return_, 1)]
set_option maxRecDepth 100000 in
theorem dk_Mo_putRegister : ∀ q ∈ dl_Mo_putRegister, decode prog_14_method_36_code q.1 = .ok q.2 := by decide +kernel
abbrev rm_Mo_putRegister : Room := { frames := 1, cells := 0, slots := 0, locals := 21 }
theorem cw_Mo_putRegister : CWV y_Mo_putRegister prog_14_method_36_code 3 none 2 := ⟨⟨g_7_145, g_1_13, by decide, by decide, by decide +kernel⟩, g_7_144, gs_6_3⟩
set_option maxHeartbeats 4000000 in
set_option maxRecDepth 100000 in
theorem c_Mo_putRegister (v0 : Nat) (ho_v0 : kd v0 = 12) (v1 : Int32) (v2 : Int32) : MV y_Mo_putRegister rm_Mo_putRegister prog_14_method_36_code 3 (fun a => [.ref (a v0), .int v1, .int v2]) (Mo_putRegister v0 v1 v2) := by
  refine mv_of (by decide) (fun _ => le_ rfl) ?_
  intro k res σ C hR hRm hnL h
  unfold Mo_putRegister at h
  show WW k 0 [(0, .ref (ad k v0)), (1, .int v1), (2, .int v2)] [] σ
  refine ww_aload_n C 0 rfl rfl (dq dk_Mo_putRegister 0 rfl) ?_
  refine ww_sipush C (dq dk_Mo_putRegister 1 rfl) sp_192 ?_
  refine ww_bipush C (dq dk_Mo_putRegister 2 rfl) bp_8 ?_
  refine ww_iload_n C 1 rfl rfl (dq dk_Mo_putRegister 3 rfl) ?_
  refine ww_imul C (dq dk_Mo_putRegister 4 rfl) ?_
  refine ww_iadd C (dq dk_Mo_putRegister 5 rfl) ?_
  refine ww_iload_n C 2 rfl rfl (dq dk_Mo_putRegister 6 rfl) ?_
  refine ww_iadd C (dq dk_Mo_putRegister 7 rfl) ?_
  refine ww_cVv (st := []) C (c_Mo_put v0 ho_v0 ((192 + (8 * v1)) + v2)) cw_Mo_put ho_v0 (lt_ rfl) rfl g_7_138 hRm ⟨⟨rfl, rfl⟩, le_ rfl, le_ rfl⟩ rfl rfl rfl (le_ rfl) (dq dk_Mo_putRegister 8 rfl) h (fun σ1 h => ?_)
  exact ww_vret C hR (dq dk_Mo_putRegister 9 rfl) h
