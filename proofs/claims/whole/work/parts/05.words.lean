theorem ts_1 {w : Cond} (h : w ∈ tables_1_1) : w ∈ lw_tbl := List.mem_append_right _ (List.mem_append_left _ h)
theorem ts_2 {w : Cond} (h : w ∈ tables_1_2) : w ∈ lw_tbl := List.mem_append_right _ (List.mem_append_right _ (List.mem_append_left _ h))
theorem ts_3 {w : Cond} (h : w ∈ tables_1_3) : w ∈ lw_tbl := List.mem_append_right _ (List.mem_append_right _ (List.mem_append_right _ (List.mem_append_left _ h)))
theorem ts_4 {w : Cond} (h : w ∈ tables_1_4) : w ∈ lw_tbl := List.mem_append_right _ (List.mem_append_right _ (List.mem_append_right _ (List.mem_append_right _ (List.mem_append_left _ h))))
theorem ts_5 {w : Cond} (h : w ∈ tables_1_5) : w ∈ lw_tbl := List.mem_append_right _ (List.mem_append_right _ (List.mem_append_right _ (List.mem_append_right _ (List.mem_append_right _ (List.mem_append_left _ h)))))
theorem ts_6 {w : Cond} (h : w ∈ tables_1_6) : w ∈ lw_tbl := List.mem_append_right _ (List.mem_append_right _ (List.mem_append_right _ (List.mem_append_right _ (List.mem_append_right _ (List.mem_append_right _ (List.mem_append_left _ h))))))
theorem ts_7 {w : Cond} (h : w ∈ tables_1_7) : w ∈ lw_tbl := List.mem_append_right _ (List.mem_append_right _ (List.mem_append_right _ (List.mem_append_right _ (List.mem_append_right _ (List.mem_append_right _ (List.mem_append_right _ (List.mem_append_left _ h)))))))
theorem ts_8 {w : Cond} (h : w ∈ tables_1_8) : w ∈ lw_tbl := List.mem_append_right _ (List.mem_append_right _ (List.mem_append_right _ (List.mem_append_right _ (List.mem_append_right _ (List.mem_append_right _ (List.mem_append_right _ (List.mem_append_right _ (h))))))))
theorem ps_1 {q : MethodName × Nat} (h : q ∈ lw_privs_1) : Cond.selects q.1.cls q.1 q.1 ∈ lw_tbl := List.mem_append_left _ (List.mem_map.mpr ⟨q, List.mem_append_left _ h, rfl⟩)
theorem ps_2 {q : MethodName × Nat} (h : q ∈ lw_privs_2) : Cond.selects q.1.cls q.1 q.1 ∈ lw_tbl := List.mem_append_left _ (List.mem_map.mpr ⟨q, List.mem_append_right _ (List.mem_append_left _ h), rfl⟩)
theorem ps_3 {q : MethodName × Nat} (h : q ∈ lw_privs_3) : Cond.selects q.1.cls q.1 q.1 ∈ lw_tbl := List.mem_append_left _ (List.mem_map.mpr ⟨q, List.mem_append_right _ (List.mem_append_right _ (List.mem_append_left _ h)), rfl⟩)
theorem ps_4 {q : MethodName × Nat} (h : q ∈ lw_privs_4) : Cond.selects q.1.cls q.1 q.1 ∈ lw_tbl := List.mem_append_left _ (List.mem_map.mpr ⟨q, List.mem_append_right _ (List.mem_append_right _ (List.mem_append_right _ (List.mem_append_left _ h))), rfl⟩)
theorem ps_5 {q : MethodName × Nat} (h : q ∈ lw_privs_5) : Cond.selects q.1.cls q.1 q.1 ∈ lw_tbl := List.mem_append_left _ (List.mem_map.mpr ⟨q, List.mem_append_right _ (List.mem_append_right _ (List.mem_append_right _ (List.mem_append_right _ (List.mem_append_left _ h)))), rfl⟩)
theorem ps_6 {q : MethodName × Nat} (h : q ∈ lw_privs_6) : Cond.selects q.1.cls q.1 q.1 ∈ lw_tbl := List.mem_append_left _ (List.mem_map.mpr ⟨q, List.mem_append_right _ (List.mem_append_right _ (List.mem_append_right _ (List.mem_append_right _ (List.mem_append_right _ (List.mem_append_left _ h))))), rfl⟩)
theorem ps_7 {q : MethodName × Nat} (h : q ∈ lw_privs_7) : Cond.selects q.1.cls q.1 q.1 ∈ lw_tbl := List.mem_append_left _ (List.mem_map.mpr ⟨q, List.mem_append_right _ (List.mem_append_right _ (List.mem_append_right _ (List.mem_append_right _ (List.mem_append_right _ (List.mem_append_right _ (List.mem_append_left _ h)))))), rfl⟩)
theorem ps_8 {q : MethodName × Nat} (h : q ∈ lw_privs_8) : Cond.selects q.1.cls q.1 q.1 ∈ lw_tbl := List.mem_append_left _ (List.mem_map.mpr ⟨q, List.mem_append_right _ (List.mem_append_right _ (List.mem_append_right _ (List.mem_append_right _ (List.mem_append_right _ (List.mem_append_right _ (List.mem_append_right _ (h))))))), rfl⟩)
theorem g_1_1 : (Jvm.Cond.initialized "BundleHouse") ∈ GT := gt_of (ts_1 (List.mem_of_getElem? (i := 1) rfl)) rfl
theorem g_1_10 : (Jvm.Cond.initialized "BundleHouse$Flags") ∈ GT := gt_of (ts_1 (List.mem_of_getElem? (i := 10) rfl)) rfl
theorem g_1_100 : (Jvm.Cond.fieldLink "BundleHouse$Runner" (102 : Nat) "BundleHouse$Instruction" "i" "I") ∈ GT := gt_of (ts_1 (List.mem_of_getElem? (i := 100) rfl)) rfl
theorem g_1_101 : (Jvm.Cond.fieldLink "BundleHouse$Piece" (54 : Nat) "BundleHouse$Instruction" "i" "I") ∈ GT := gt_of (ts_1 (List.mem_of_getElem? (i := 101) rfl)) rfl
theorem g_1_102 : (Jvm.Cond.fieldLink "BundleHouse$Machine" (140 : Nat) "BundleHouse$Instruction" "i" "I") ∈ GT := gt_of (ts_1 (List.mem_of_getElem? (i := 102) rfl)) rfl
theorem g_1_103 : (Jvm.Cond.fieldLink "BundleHouse$Reader" (70 : Nat) "BundleHouse$Instruction" "length" "I") ∈ GT := gt_of (ts_1 (List.mem_of_getElem? (i := 103) rfl)) rfl
theorem g_1_104 : (Jvm.Cond.fieldLink "BundleHouse$Policy" (68 : Nat) "BundleHouse$Instruction" "length" "I") ∈ GT := gt_of (ts_1 (List.mem_of_getElem? (i := 104) rfl)) rfl
theorem g_1_105 : (Jvm.Cond.fieldLink "BundleHouse$Runner" (79 : Nat) "BundleHouse$Instruction" "length" "I") ∈ GT := gt_of (ts_1 (List.mem_of_getElem? (i := 105) rfl)) rfl
theorem g_1_106 : (Jvm.Cond.fieldLink "BundleHouse$Instruction" (28 : Nat) "BundleHouse$Instruction" "length" "I") ∈ GT := gt_of (ts_1 (List.mem_of_getElem? (i := 106) rfl)) rfl
theorem g_1_107 : (Jvm.Cond.lays "BundleHouse$Instruction" "BundleHouse$Instruction" "op" "I") ∈ GT := gt_of (ts_1 (List.mem_of_getElem? (i := 107) rfl)) rfl
theorem g_1_109 : (Jvm.Cond.lays "BundleHouse$Instruction" "BundleHouse$Instruction" "form" "I") ∈ GT := gt_of (ts_1 (List.mem_of_getElem? (i := 109) rfl)) rfl
theorem g_1_11 : (Jvm.Cond.initialized "BundleHouse$Runner") ∈ GT := gt_of (ts_1 (List.mem_of_getElem? (i := 11) rfl)) rfl
theorem g_1_111 : (Jvm.Cond.lays "BundleHouse$Instruction" "BundleHouse$Instruction" "\x72" "I") ∈ GT := gt_of (ts_1 (List.mem_of_getElem? (i := 111) rfl)) rfl
theorem g_1_113 : (Jvm.Cond.lays "BundleHouse$Instruction" "BundleHouse$Instruction" "x" "I") ∈ GT := gt_of (ts_1 (List.mem_of_getElem? (i := 113) rfl)) rfl
theorem g_1_115 : (Jvm.Cond.lays "BundleHouse$Instruction" "BundleHouse$Instruction" "d" "I") ∈ GT := gt_of (ts_1 (List.mem_of_getElem? (i := 115) rfl)) rfl
theorem g_1_117 : (Jvm.Cond.lays "BundleHouse$Instruction" "BundleHouse$Instruction" "i" "I") ∈ GT := gt_of (ts_1 (List.mem_of_getElem? (i := 117) rfl)) rfl
theorem g_1_119 : (Jvm.Cond.lays "BundleHouse$Instruction" "BundleHouse$Instruction" "length" "I") ∈ GT := gt_of (ts_1 (List.mem_of_getElem? (i := 119) rfl)) rfl
theorem g_1_12 : (Jvm.Cond.initialized "BundleHouse$Walker") ∈ GT := gt_of (ts_1 (List.mem_of_getElem? (i := 12) rfl)) rfl
theorem g_1_122 : (Jvm.Cond.fieldLink "BundleHouse$Reader" (12 : Nat) "BundleHouse$Reader" "found" "LBundleHouse$Instruction;") ∈ GT := gt_of (ts_1 (List.mem_of_getElem? (i := 122) rfl)) rfl
theorem g_1_123 : (Jvm.Cond.fieldLink "BundleHouse$Policy" (52 : Nat) "BundleHouse$Reader" "found" "LBundleHouse$Instruction;") ∈ GT := gt_of (ts_1 (List.mem_of_getElem? (i := 123) rfl)) rfl
theorem g_1_124 : (Jvm.Cond.fieldLink "BundleHouse$Runner" (70 : Nat) "BundleHouse$Reader" "found" "LBundleHouse$Instruction;") ∈ GT := gt_of (ts_1 (List.mem_of_getElem? (i := 124) rfl)) rfl
theorem g_1_126 : (Jvm.Cond.fieldLink "BundleHouse$Reader" (18 : Nat) "BundleHouse$Reader" "source" "LBundleHouse$Strip;") ∈ GT := gt_of (ts_1 (List.mem_of_getElem? (i := 126) rfl)) rfl
theorem g_1_127 : (Jvm.Cond.fieldLink "BundleHouse$Reader" (22 : Nat) "BundleHouse$Reader" "next" "I") ∈ GT := gt_of (ts_1 (List.mem_of_getElem? (i := 127) rfl)) rfl
theorem g_1_128 : (Jvm.Cond.fieldLink "BundleHouse$Reader" (26 : Nat) "BundleHouse$Reader" "good" "Z") ∈ GT := gt_of (ts_1 (List.mem_of_getElem? (i := 128) rfl)) rfl
theorem g_1_129 : (Jvm.Cond.fieldLink "BundleHouse$Reader" (30 : Nat) "BundleHouse$Reader" "operandSort" "I") ∈ GT := gt_of (ts_1 (List.mem_of_getElem? (i := 129) rfl)) rfl
theorem g_1_13 : (Jvm.Cond.initialized "BundleHouseModel") ∈ GT := gt_of (ts_1 (List.mem_of_getElem? (i := 13) rfl)) rfl
theorem g_1_130 : (Jvm.Cond.fieldLink "BundleHouse$Reader" (33 : Nat) "BundleHouse$Reader" "valueSize" "I") ∈ GT := gt_of (ts_1 (List.mem_of_getElem? (i := 130) rfl)) rfl
theorem g_1_131 : (Jvm.Cond.fieldLink "BundleHouse$Reader" (57 : Nat) "BundleHouse$Reader" "distanceSize" "I") ∈ GT := gt_of (ts_1 (List.mem_of_getElem? (i := 131) rfl)) rfl
theorem g_1_132 : (Jvm.Cond.fieldLink "BundleHouse$Reader" (119 : Nat) "BundleHouse$Reader" "inRegister" "Z") ∈ GT := gt_of (ts_1 (List.mem_of_getElem? (i := 132) rfl)) rfl
theorem g_1_133 : (Jvm.Cond.fieldLink "BundleHouse$Reader" (113 : Nat) "BundleHouse$Reader" "middle" "I") ∈ GT := gt_of (ts_1 (List.mem_of_getElem? (i := 133) rfl)) rfl
theorem g_1_134 : (Jvm.Cond.fieldLink "BundleHouse$Reader" (116 : Nat) "BundleHouse$Reader" "low" "I") ∈ GT := gt_of (ts_1 (List.mem_of_getElem? (i := 134) rfl)) rfl
theorem g_1_135 : (Jvm.Cond.laysFinal "BundleHouse$Reader" "BundleHouse$Reader" "found" "LBundleHouse$Instruction;") ∈ GT := gt_of (ts_1 (List.mem_of_getElem? (i := 135) rfl)) rfl
theorem g_1_137 : (Jvm.Cond.laysFinal "BundleHouse$Reader" "BundleHouse$Reader" "source" "LBundleHouse$Strip;") ∈ GT := gt_of (ts_1 (List.mem_of_getElem? (i := 137) rfl)) rfl
theorem g_1_139 : (Jvm.Cond.lays "BundleHouse$Reader" "BundleHouse$Reader" "next" "I") ∈ GT := gt_of (ts_1 (List.mem_of_getElem? (i := 139) rfl)) rfl
theorem g_1_14 : (Jvm.Cond.initialized "java/lang/System") ∈ GT := gt_of (ts_1 (List.mem_of_getElem? (i := 14) rfl)) rfl
theorem g_1_141 : (Jvm.Cond.lays "BundleHouse$Reader" "BundleHouse$Reader" "good" "Z") ∈ GT := gt_of (ts_1 (List.mem_of_getElem? (i := 141) rfl)) rfl
theorem g_1_143 : (Jvm.Cond.lays "BundleHouse$Reader" "BundleHouse$Reader" "operandSort" "I") ∈ GT := gt_of (ts_1 (List.mem_of_getElem? (i := 143) rfl)) rfl
theorem g_1_145 : (Jvm.Cond.lays "BundleHouse$Reader" "BundleHouse$Reader" "valueSize" "I") ∈ GT := gt_of (ts_1 (List.mem_of_getElem? (i := 145) rfl)) rfl
theorem g_1_147 : (Jvm.Cond.lays "BundleHouse$Reader" "BundleHouse$Reader" "distanceSize" "I") ∈ GT := gt_of (ts_1 (List.mem_of_getElem? (i := 147) rfl)) rfl
theorem g_1_149 : (Jvm.Cond.lays "BundleHouse$Reader" "BundleHouse$Reader" "inRegister" "Z") ∈ GT := gt_of (ts_1 (List.mem_of_getElem? (i := 149) rfl)) rfl
theorem g_1_15 : (Jvm.Cond.initialized "java/lang/Math") ∈ GT := gt_of (ts_1 (List.mem_of_getElem? (i := 15) rfl)) rfl
theorem g_1_151 : (Jvm.Cond.lays "BundleHouse$Reader" "BundleHouse$Reader" "middle" "I") ∈ GT := gt_of (ts_1 (List.mem_of_getElem? (i := 151) rfl)) rfl
theorem g_1_153 : (Jvm.Cond.lays "BundleHouse$Reader" "BundleHouse$Reader" "low" "I") ∈ GT := gt_of (ts_1 (List.mem_of_getElem? (i := 153) rfl)) rfl
theorem g_1_156 : (Jvm.Cond.fieldLink "BundleHouse$Policy" (9 : Nat) "BundleHouse$Policy" "faultPlace" "I") ∈ GT := gt_of (ts_1 (List.mem_of_getElem? (i := 156) rfl)) rfl
theorem g_1_157 : (Jvm.Cond.fieldLink "BundleHouse" (106 : Nat) "BundleHouse$Policy" "faultPlace" "I") ∈ GT := gt_of (ts_1 (List.mem_of_getElem? (i := 157) rfl)) rfl
theorem g_1_158 : (Jvm.Cond.fieldLink "BundleHouse$Policy" (15 : Nat) "BundleHouse$Policy" "strip" "LBundleHouse$Strip;") ∈ GT := gt_of (ts_1 (List.mem_of_getElem? (i := 158) rfl)) rfl
theorem g_1_159 : (Jvm.Cond.fieldLink "BundleHouse$Policy" (24 : Nat) "BundleHouse$Policy" "reader" "LBundleHouse$Reader;") ∈ GT := gt_of (ts_1 (List.mem_of_getElem? (i := 159) rfl)) rfl
theorem g_1_160 : (Jvm.Cond.lays "BundleHouse$Policy" "BundleHouse$Policy" "faultPlace" "I") ∈ GT := gt_of (ts_1 (List.mem_of_getElem? (i := 160) rfl)) rfl
theorem g_1_162 : (Jvm.Cond.laysFinal "BundleHouse$Policy" "BundleHouse$Policy" "strip" "LBundleHouse$Strip;") ∈ GT := gt_of (ts_1 (List.mem_of_getElem? (i := 162) rfl)) rfl
theorem g_1_164 : (Jvm.Cond.laysFinal "BundleHouse$Policy" "BundleHouse$Policy" "reader" "LBundleHouse$Reader;") ∈ GT := gt_of (ts_1 (List.mem_of_getElem? (i := 164) rfl)) rfl
theorem g_1_175 : (Jvm.Cond.fieldLink "BundleHouse$Program" (9 : Nat) "BundleHouse$Program" "sort" "[I") ∈ GT := gt_of (ts_1 (List.mem_of_getElem? (i := 175) rfl)) rfl
theorem g_1_176 : (Jvm.Cond.fieldLink "BundleHouse$Walker" (46 : Nat) "BundleHouse$Program" "sort" "[I") ∈ GT := gt_of (ts_1 (List.mem_of_getElem? (i := 176) rfl)) rfl
theorem g_1_177 : (Jvm.Cond.fieldLink "BundleHouse$Builder" (77 : Nat) "BundleHouse$Program" "sort" "[I") ∈ GT := gt_of (ts_1 (List.mem_of_getElem? (i := 177) rfl)) rfl
theorem g_1_178 : (Jvm.Cond.fieldLink "BundleHouse$Program" (15 : Nat) "BundleHouse$Program" "a" "[I") ∈ GT := gt_of (ts_1 (List.mem_of_getElem? (i := 178) rfl)) rfl
theorem g_1_179 : (Jvm.Cond.fieldLink "BundleHouse$Walker" (54 : Nat) "BundleHouse$Program" "a" "[I") ∈ GT := gt_of (ts_1 (List.mem_of_getElem? (i := 179) rfl)) rfl
theorem g_1_180 : (Jvm.Cond.fieldLink "BundleHouse$Builder" (71 : Nat) "BundleHouse$Program" "a" "[I") ∈ GT := gt_of (ts_1 (List.mem_of_getElem? (i := 180) rfl)) rfl
theorem g_1_181 : (Jvm.Cond.fieldLink "BundleHouse$Program" (18 : Nat) "BundleHouse$Program" "b" "[I") ∈ GT := gt_of (ts_1 (List.mem_of_getElem? (i := 181) rfl)) rfl
theorem g_1_182 : (Jvm.Cond.fieldLink "BundleHouse$Walker" (57 : Nat) "BundleHouse$Program" "b" "[I") ∈ GT := gt_of (ts_1 (List.mem_of_getElem? (i := 182) rfl)) rfl
theorem g_1_183 : (Jvm.Cond.fieldLink "BundleHouse$Builder" (158 : Nat) "BundleHouse$Program" "b" "[I") ∈ GT := gt_of (ts_1 (List.mem_of_getElem? (i := 183) rfl)) rfl
theorem g_1_184 : (Jvm.Cond.fieldLink "BundleHouse$Program" (21 : Nat) "BundleHouse$Program" "placeRow" "[I") ∈ GT := gt_of (ts_1 (List.mem_of_getElem? (i := 184) rfl)) rfl
theorem g_1_185 : (Jvm.Cond.fieldLink "BundleHouse$Builder" (95 : Nat) "BundleHouse$Program" "placeRow" "[I") ∈ GT := gt_of (ts_1 (List.mem_of_getElem? (i := 185) rfl)) rfl
theorem g_1_186 : (Jvm.Cond.fieldLink "BundleHouse$Program" (48 : Nat) "BundleHouse$Program" "count" "I") ∈ GT := gt_of (ts_1 (List.mem_of_getElem? (i := 186) rfl)) rfl
theorem g_1_187 : (Jvm.Cond.fieldLink "BundleHouse$Builder" (46 : Nat) "BundleHouse$Program" "count" "I") ∈ GT := gt_of (ts_1 (List.mem_of_getElem? (i := 187) rfl)) rfl
theorem g_1_188 : (Jvm.Cond.fieldLink "BundleHouse" (131 : Nat) "BundleHouse$Program" "count" "I") ∈ GT := gt_of (ts_1 (List.mem_of_getElem? (i := 188) rfl)) rfl
theorem g_1_189 : (Jvm.Cond.fieldLink "BundleHouse$Builder" (101 : Nat) "BundleHouse$Program" "tail" "I") ∈ GT := gt_of (ts_1 (List.mem_of_getElem? (i := 189) rfl)) rfl
theorem g_1_190 : (Jvm.Cond.fieldLink "BundleHouse$Program" (62 : Nat) "BundleHouse$Program" "tail" "I") ∈ GT := gt_of (ts_1 (List.mem_of_getElem? (i := 190) rfl)) rfl
theorem g_1_191 : (Jvm.Cond.fieldLink "BundleHouse$Program" (24 : Nat) "BundleHouse$Program" "op" "[I") ∈ GT := gt_of (ts_1 (List.mem_of_getElem? (i := 191) rfl)) rfl
theorem g_1_192 : (Jvm.Cond.fieldLink "BundleHouse$Program" (27 : Nat) "BundleHouse$Program" "form" "[I") ∈ GT := gt_of (ts_1 (List.mem_of_getElem? (i := 192) rfl)) rfl
theorem g_1_193 : (Jvm.Cond.fieldLink "BundleHouse$Program" (30 : Nat) "BundleHouse$Program" "\x72" "[I") ∈ GT := gt_of (ts_1 (List.mem_of_getElem? (i := 193) rfl)) rfl
theorem g_1_194 : (Jvm.Cond.fieldLink "BundleHouse$Program" (33 : Nat) "BundleHouse$Program" "x" "[I") ∈ GT := gt_of (ts_1 (List.mem_of_getElem? (i := 194) rfl)) rfl
theorem g_1_195 : (Jvm.Cond.fieldLink "BundleHouse$Program" (36 : Nat) "BundleHouse$Program" "d" "[I") ∈ GT := gt_of (ts_1 (List.mem_of_getElem? (i := 195) rfl)) rfl
theorem g_1_196 : (Jvm.Cond.fieldLink "BundleHouse$Program" (39 : Nat) "BundleHouse$Program" "i" "[I") ∈ GT := gt_of (ts_1 (List.mem_of_getElem? (i := 196) rfl)) rfl
theorem g_1_197 : (Jvm.Cond.fieldLink "BundleHouse$Program" (42 : Nat) "BundleHouse$Program" "labelRow" "[I") ∈ GT := gt_of (ts_1 (List.mem_of_getElem? (i := 197) rfl)) rfl
theorem g_1_198 : (Jvm.Cond.fieldLink "BundleHouse$Program" (45 : Nat) "BundleHouse$Program" "landingRow" "[I") ∈ GT := gt_of (ts_1 (List.mem_of_getElem? (i := 198) rfl)) rfl
theorem g_1_199 : (Jvm.Cond.laysFinal "BundleHouse$Program" "BundleHouse$Program" "sort" "[I") ∈ GT := gt_of (ts_1 (List.mem_of_getElem? (i := 199) rfl)) rfl
theorem g_1_2 : (Jvm.Cond.initialized "BundleHouse$Strip") ∈ GT := gt_of (ts_1 (List.mem_of_getElem? (i := 2) rfl)) rfl
theorem g_1_201 : (Jvm.Cond.laysFinal "BundleHouse$Program" "BundleHouse$Program" "a" "[I") ∈ GT := gt_of (ts_1 (List.mem_of_getElem? (i := 201) rfl)) rfl
theorem g_1_203 : (Jvm.Cond.laysFinal "BundleHouse$Program" "BundleHouse$Program" "b" "[I") ∈ GT := gt_of (ts_1 (List.mem_of_getElem? (i := 203) rfl)) rfl
theorem g_1_205 : (Jvm.Cond.laysFinal "BundleHouse$Program" "BundleHouse$Program" "placeRow" "[I") ∈ GT := gt_of (ts_1 (List.mem_of_getElem? (i := 205) rfl)) rfl
theorem g_1_207 : (Jvm.Cond.lays "BundleHouse$Program" "BundleHouse$Program" "count" "I") ∈ GT := gt_of (ts_1 (List.mem_of_getElem? (i := 207) rfl)) rfl
theorem g_1_209 : (Jvm.Cond.lays "BundleHouse$Program" "BundleHouse$Program" "tail" "I") ∈ GT := gt_of (ts_1 (List.mem_of_getElem? (i := 209) rfl)) rfl
theorem g_1_211 : (Jvm.Cond.laysFinal "BundleHouse$Program" "BundleHouse$Program" "op" "[I") ∈ GT := gt_of (ts_1 (List.mem_of_getElem? (i := 211) rfl)) rfl
theorem g_1_213 : (Jvm.Cond.laysFinal "BundleHouse$Program" "BundleHouse$Program" "form" "[I") ∈ GT := gt_of (ts_1 (List.mem_of_getElem? (i := 213) rfl)) rfl
theorem g_1_215 : (Jvm.Cond.laysFinal "BundleHouse$Program" "BundleHouse$Program" "\x72" "[I") ∈ GT := gt_of (ts_1 (List.mem_of_getElem? (i := 215) rfl)) rfl
theorem g_1_217 : (Jvm.Cond.laysFinal "BundleHouse$Program" "BundleHouse$Program" "x" "[I") ∈ GT := gt_of (ts_1 (List.mem_of_getElem? (i := 217) rfl)) rfl
theorem g_1_219 : (Jvm.Cond.laysFinal "BundleHouse$Program" "BundleHouse$Program" "d" "[I") ∈ GT := gt_of (ts_1 (List.mem_of_getElem? (i := 219) rfl)) rfl
theorem g_1_221 : (Jvm.Cond.laysFinal "BundleHouse$Program" "BundleHouse$Program" "i" "[I") ∈ GT := gt_of (ts_1 (List.mem_of_getElem? (i := 221) rfl)) rfl
theorem g_1_223 : (Jvm.Cond.laysFinal "BundleHouse$Program" "BundleHouse$Program" "labelRow" "[I") ∈ GT := gt_of (ts_1 (List.mem_of_getElem? (i := 223) rfl)) rfl
theorem g_1_225 : (Jvm.Cond.laysFinal "BundleHouse$Program" "BundleHouse$Program" "landingRow" "[I") ∈ GT := gt_of (ts_1 (List.mem_of_getElem? (i := 225) rfl)) rfl
theorem g_1_3 : (Jvm.Cond.initialized "BundleHouse$Policy") ∈ GT := gt_of (ts_1 (List.mem_of_getElem? (i := 3) rfl)) rfl
theorem g_1_36 : (Jvm.Cond.fieldLink "BundleHouse$Strip" (9 : Nat) "BundleHouse$Strip" "row" "[I") ∈ GT := gt_of (ts_1 (List.mem_of_getElem? (i := 36) rfl)) rfl
theorem g_1_37 : (Jvm.Cond.fieldLink "BundleHouse$Reader" (78 : Nat) "BundleHouse$Strip" "row" "[I") ∈ GT := gt_of (ts_1 (List.mem_of_getElem? (i := 37) rfl)) rfl
theorem g_1_38 : (Jvm.Cond.fieldLink "BundleHouse$Strip" (15 : Nat) "BundleHouse$Strip" "marks" "[I") ∈ GT := gt_of (ts_1 (List.mem_of_getElem? (i := 38) rfl)) rfl
theorem g_1_39 : (Jvm.Cond.fieldLink "BundleHouse" (92 : Nat) "BundleHouse$Strip" "count" "I") ∈ GT := gt_of (ts_1 (List.mem_of_getElem? (i := 39) rfl)) rfl
theorem g_1_4 : (Jvm.Cond.initialized "BundleHouse$Reader") ∈ GT := gt_of (ts_1 (List.mem_of_getElem? (i := 4) rfl)) rfl
theorem g_1_40 : (Jvm.Cond.fieldLink "BundleHouse$Policy" (28 : Nat) "BundleHouse$Strip" "count" "I") ∈ GT := gt_of (ts_1 (List.mem_of_getElem? (i := 40) rfl)) rfl
theorem g_1_41 : (Jvm.Cond.fieldLink "BundleHouse$Strip" (18 : Nat) "BundleHouse$Strip" "count" "I") ∈ GT := gt_of (ts_1 (List.mem_of_getElem? (i := 41) rfl)) rfl
theorem g_1_42 : (Jvm.Cond.fieldLink "BundleHouse$Reader" (73 : Nat) "BundleHouse$Strip" "count" "I") ∈ GT := gt_of (ts_1 (List.mem_of_getElem? (i := 42) rfl)) rfl
theorem g_1_43 : (Jvm.Cond.fieldLink "BundleHouse$Runner" (60 : Nat) "BundleHouse$Strip" "count" "I") ∈ GT := gt_of (ts_1 (List.mem_of_getElem? (i := 43) rfl)) rfl
theorem g_1_44 : (Jvm.Cond.laysFinal "BundleHouse$Strip" "BundleHouse$Strip" "row" "[I") ∈ GT := gt_of (ts_1 (List.mem_of_getElem? (i := 44) rfl)) rfl
theorem g_1_46 : (Jvm.Cond.laysFinal "BundleHouse$Strip" "BundleHouse$Strip" "marks" "[I") ∈ GT := gt_of (ts_1 (List.mem_of_getElem? (i := 46) rfl)) rfl
theorem g_1_48 : (Jvm.Cond.lays "BundleHouse$Strip" "BundleHouse$Strip" "count" "I") ∈ GT := gt_of (ts_1 (List.mem_of_getElem? (i := 48) rfl)) rfl
theorem g_1_5 : (Jvm.Cond.initialized "BundleHouse$Instruction") ∈ GT := gt_of (ts_1 (List.mem_of_getElem? (i := 5) rfl)) rfl
theorem g_1_6 : (Jvm.Cond.initialized "BundleHouse$Program") ∈ GT := gt_of (ts_1 (List.mem_of_getElem? (i := 6) rfl)) rfl
theorem g_1_7 : (Jvm.Cond.initialized "BundleHouse$Builder") ∈ GT := gt_of (ts_1 (List.mem_of_getElem? (i := 7) rfl)) rfl
theorem g_1_70 : (Jvm.Cond.fieldLink "BundleHouse$Instruction" (7 : Nat) "BundleHouse$Instruction" "op" "I") ∈ GT := gt_of (ts_1 (List.mem_of_getElem? (i := 70) rfl)) rfl
theorem g_1_71 : (Jvm.Cond.fieldLink "BundleHouse$Policy" (56 : Nat) "BundleHouse$Instruction" "op" "I") ∈ GT := gt_of (ts_1 (List.mem_of_getElem? (i := 71) rfl)) rfl
theorem g_1_72 : (Jvm.Cond.fieldLink "BundleHouse$Runner" (74 : Nat) "BundleHouse$Instruction" "op" "I") ∈ GT := gt_of (ts_1 (List.mem_of_getElem? (i := 72) rfl)) rfl
theorem g_1_73 : (Jvm.Cond.fieldLink "BundleHouse$Reader" (82 : Nat) "BundleHouse$Instruction" "op" "I") ∈ GT := gt_of (ts_1 (List.mem_of_getElem? (i := 73) rfl)) rfl
theorem g_1_74 : (Jvm.Cond.fieldLink "BundleHouse$Walker" (136 : Nat) "BundleHouse$Instruction" "op" "I") ∈ GT := gt_of (ts_1 (List.mem_of_getElem? (i := 74) rfl)) rfl
theorem g_1_75 : (Jvm.Cond.fieldLink "BundleHouse$Piece" (40 : Nat) "BundleHouse$Instruction" "op" "I") ∈ GT := gt_of (ts_1 (List.mem_of_getElem? (i := 75) rfl)) rfl
theorem g_1_76 : (Jvm.Cond.fieldLink "BundleHouse$Machine" (123 : Nat) "BundleHouse$Instruction" "op" "I") ∈ GT := gt_of (ts_1 (List.mem_of_getElem? (i := 76) rfl)) rfl
theorem g_1_77 : (Jvm.Cond.fieldLink "BundleHouse$Instruction" (13 : Nat) "BundleHouse$Instruction" "form" "I") ∈ GT := gt_of (ts_1 (List.mem_of_getElem? (i := 77) rfl)) rfl
theorem g_1_78 : (Jvm.Cond.fieldLink "BundleHouse$Reader" (85 : Nat) "BundleHouse$Instruction" "form" "I") ∈ GT := gt_of (ts_1 (List.mem_of_getElem? (i := 78) rfl)) rfl
theorem g_1_79 : (Jvm.Cond.fieldLink "BundleHouse$Policy" (77 : Nat) "BundleHouse$Instruction" "form" "I") ∈ GT := gt_of (ts_1 (List.mem_of_getElem? (i := 79) rfl)) rfl
theorem g_1_8 : (Jvm.Cond.initialized "BundleHouse$Piece") ∈ GT := gt_of (ts_1 (List.mem_of_getElem? (i := 8) rfl)) rfl
theorem g_1_80 : (Jvm.Cond.fieldLink "BundleHouse$Runner" (99 : Nat) "BundleHouse$Instruction" "form" "I") ∈ GT := gt_of (ts_1 (List.mem_of_getElem? (i := 80) rfl)) rfl
theorem g_1_81 : (Jvm.Cond.fieldLink "BundleHouse$Piece" (51 : Nat) "BundleHouse$Instruction" "form" "I") ∈ GT := gt_of (ts_1 (List.mem_of_getElem? (i := 81) rfl)) rfl
theorem g_1_82 : (Jvm.Cond.fieldLink "BundleHouse$Machine" (107 : Nat) "BundleHouse$Instruction" "form" "I") ∈ GT := gt_of (ts_1 (List.mem_of_getElem? (i := 82) rfl)) rfl
theorem g_1_83 : (Jvm.Cond.fieldLink "BundleHouse$Instruction" (16 : Nat) "BundleHouse$Instruction" "\x72" "I") ∈ GT := gt_of (ts_1 (List.mem_of_getElem? (i := 83) rfl)) rfl
theorem g_1_84 : (Jvm.Cond.fieldLink "BundleHouse$Policy" (71 : Nat) "BundleHouse$Instruction" "\x72" "I") ∈ GT := gt_of (ts_1 (List.mem_of_getElem? (i := 84) rfl)) rfl
theorem g_1_85 : (Jvm.Cond.fieldLink "BundleHouse$Reader" (88 : Nat) "BundleHouse$Instruction" "\x72" "I") ∈ GT := gt_of (ts_1 (List.mem_of_getElem? (i := 85) rfl)) rfl
theorem g_1_86 : (Jvm.Cond.fieldLink "BundleHouse$Runner" (105 : Nat) "BundleHouse$Instruction" "\x72" "I") ∈ GT := gt_of (ts_1 (List.mem_of_getElem? (i := 86) rfl)) rfl
theorem g_1_87 : (Jvm.Cond.fieldLink "BundleHouse$Piece" (48 : Nat) "BundleHouse$Instruction" "\x72" "I") ∈ GT := gt_of (ts_1 (List.mem_of_getElem? (i := 87) rfl)) rfl
theorem g_1_88 : (Jvm.Cond.fieldLink "BundleHouse$Machine" (134 : Nat) "BundleHouse$Instruction" "\x72" "I") ∈ GT := gt_of (ts_1 (List.mem_of_getElem? (i := 88) rfl)) rfl
theorem g_1_89 : (Jvm.Cond.fieldLink "BundleHouse$Instruction" (19 : Nat) "BundleHouse$Instruction" "x" "I") ∈ GT := gt_of (ts_1 (List.mem_of_getElem? (i := 89) rfl)) rfl
theorem g_1_9 : (Jvm.Cond.initialized "BundleHouse$Machine") ∈ GT := gt_of (ts_1 (List.mem_of_getElem? (i := 9) rfl)) rfl
theorem g_1_90 : (Jvm.Cond.fieldLink "BundleHouse$Reader" (122 : Nat) "BundleHouse$Instruction" "x" "I") ∈ GT := gt_of (ts_1 (List.mem_of_getElem? (i := 90) rfl)) rfl
theorem g_1_91 : (Jvm.Cond.fieldLink "BundleHouse$Piece" (64 : Nat) "BundleHouse$Instruction" "x" "I") ∈ GT := gt_of (ts_1 (List.mem_of_getElem? (i := 91) rfl)) rfl
theorem g_1_92 : (Jvm.Cond.fieldLink "BundleHouse$Machine" (163 : Nat) "BundleHouse$Instruction" "x" "I") ∈ GT := gt_of (ts_1 (List.mem_of_getElem? (i := 92) rfl)) rfl
theorem g_1_93 : (Jvm.Cond.fieldLink "BundleHouse$Instruction" (22 : Nat) "BundleHouse$Instruction" "d" "I") ∈ GT := gt_of (ts_1 (List.mem_of_getElem? (i := 93) rfl)) rfl
theorem g_1_94 : (Jvm.Cond.fieldLink "BundleHouse$Reader" (64 : Nat) "BundleHouse$Instruction" "d" "I") ∈ GT := gt_of (ts_1 (List.mem_of_getElem? (i := 94) rfl)) rfl
theorem g_1_95 : (Jvm.Cond.fieldLink "BundleHouse$Piece" (81 : Nat) "BundleHouse$Instruction" "d" "I") ∈ GT := gt_of (ts_1 (List.mem_of_getElem? (i := 95) rfl)) rfl
theorem g_1_96 : (Jvm.Cond.fieldLink "BundleHouse$Machine" (176 : Nat) "BundleHouse$Instruction" "d" "I") ∈ GT := gt_of (ts_1 (List.mem_of_getElem? (i := 96) rfl)) rfl
theorem g_1_97 : (Jvm.Cond.fieldLink "BundleHouse$Instruction" (25 : Nat) "BundleHouse$Instruction" "i" "I") ∈ GT := gt_of (ts_1 (List.mem_of_getElem? (i := 97) rfl)) rfl
theorem g_1_98 : (Jvm.Cond.fieldLink "BundleHouse$Reader" (67 : Nat) "BundleHouse$Instruction" "i" "I") ∈ GT := gt_of (ts_1 (List.mem_of_getElem? (i := 98) rfl)) rfl
theorem g_1_99 : (Jvm.Cond.fieldLink "BundleHouse$Policy" (80 : Nat) "BundleHouse$Instruction" "i" "I") ∈ GT := gt_of (ts_1 (List.mem_of_getElem? (i := 99) rfl)) rfl
theorem g_2_0 : (Jvm.Cond.fieldLink "BundleHouse$Piece" (11 : Nat) "BundleHouse$Piece" "row" "[I") ∈ GT := gt_of (ts_2 (List.mem_of_getElem? (i := 0) rfl)) rfl
theorem g_2_1 : (Jvm.Cond.fieldLink "BundleHouse$Strip" (25 : Nat) "BundleHouse$Piece" "row" "[I") ∈ GT := gt_of (ts_2 (List.mem_of_getElem? (i := 1) rfl)) rfl
theorem g_2_101 : (Jvm.Cond.lays "BundleHouse$Machine" "BundleHouse$Machine" "hasRun" "Z") ∈ GT := gt_of (ts_2 (List.mem_of_getElem? (i := 101) rfl)) rfl
theorem g_2_103 : (Jvm.Cond.laysFinal "BundleHouse$Machine" "BundleHouse$Machine" "register" "[I") ∈ GT := gt_of (ts_2 (List.mem_of_getElem? (i := 103) rfl)) rfl
theorem g_2_105 : (Jvm.Cond.laysFinal "BundleHouse$Machine" "BundleHouse$Machine" "bytes" "[I") ∈ GT := gt_of (ts_2 (List.mem_of_getElem? (i := 105) rfl)) rfl
theorem g_2_107 : (Jvm.Cond.laysFinal "BundleHouse$Machine" "BundleHouse$Machine" "inputRow" "[I") ∈ GT := gt_of (ts_2 (List.mem_of_getElem? (i := 107) rfl)) rfl
theorem g_2_109 : (Jvm.Cond.lays "BundleHouse$Machine" "BundleHouse$Machine" "inputCount" "I") ∈ GT := gt_of (ts_2 (List.mem_of_getElem? (i := 109) rfl)) rfl
theorem g_2_111 : (Jvm.Cond.lays "BundleHouse$Machine" "BundleHouse$Machine" "inputNext" "I") ∈ GT := gt_of (ts_2 (List.mem_of_getElem? (i := 111) rfl)) rfl
theorem g_2_113 : (Jvm.Cond.laysFinal "BundleHouse$Machine" "BundleHouse$Machine" "outputRow" "[I") ∈ GT := gt_of (ts_2 (List.mem_of_getElem? (i := 113) rfl)) rfl
theorem g_2_115 : (Jvm.Cond.lays "BundleHouse$Machine" "BundleHouse$Machine" "outputCount" "I") ∈ GT := gt_of (ts_2 (List.mem_of_getElem? (i := 115) rfl)) rfl
theorem g_2_12 : (Jvm.Cond.fieldLink "BundleHouse$Builder" (9 : Nat) "BundleHouse$Builder" "faultItem" "I") ∈ GT := gt_of (ts_2 (List.mem_of_getElem? (i := 12) rfl)) rfl
theorem g_2_124 : (Jvm.Cond.fieldLink "BundleHouse$Runner" (9 : Nat) "BundleHouse$Runner" "strip" "LBundleHouse$Strip;") ∈ GT := gt_of (ts_2 (List.mem_of_getElem? (i := 124) rfl)) rfl
theorem g_2_125 : (Jvm.Cond.fieldLink "BundleHouse$Runner" (15 : Nat) "BundleHouse$Runner" "reader" "LBundleHouse$Reader;") ∈ GT := gt_of (ts_2 (List.mem_of_getElem? (i := 125) rfl)) rfl
theorem g_2_126 : (Jvm.Cond.fieldLink "BundleHouse$Runner" (19 : Nat) "BundleHouse$Runner" "machine" "LBundleHouse$Machine;") ∈ GT := gt_of (ts_2 (List.mem_of_getElem? (i := 126) rfl)) rfl
theorem g_2_127 : (Jvm.Cond.laysFinal "BundleHouse$Runner" "BundleHouse$Runner" "strip" "LBundleHouse$Strip;") ∈ GT := gt_of (ts_2 (List.mem_of_getElem? (i := 127) rfl)) rfl
theorem g_2_129 : (Jvm.Cond.laysFinal "BundleHouse$Runner" "BundleHouse$Runner" "reader" "LBundleHouse$Reader;") ∈ GT := gt_of (ts_2 (List.mem_of_getElem? (i := 129) rfl)) rfl
theorem g_2_13 : (Jvm.Cond.fieldLink "BundleHouse" (141 : Nat) "BundleHouse$Builder" "faultItem" "I") ∈ GT := gt_of (ts_2 (List.mem_of_getElem? (i := 13) rfl)) rfl
theorem g_2_131 : (Jvm.Cond.laysFinal "BundleHouse$Runner" "BundleHouse$Runner" "machine" "LBundleHouse$Machine;") ∈ GT := gt_of (ts_2 (List.mem_of_getElem? (i := 131) rfl)) rfl
theorem g_2_14 : (Jvm.Cond.fieldLink "BundleHouse$Builder" (33 : Nat) "BundleHouse$Builder" "draft" "LBundleHouse$Program;") ∈ GT := gt_of (ts_2 (List.mem_of_getElem? (i := 14) rfl)) rfl
theorem g_2_142 : (Jvm.Cond.fieldLink "BundleHouse$Walker" (18 : Nat) "BundleHouse$Walker" "program" "LBundleHouse$Program;") ∈ GT := gt_of (ts_2 (List.mem_of_getElem? (i := 142) rfl)) rfl
theorem g_2_143 : (Jvm.Cond.fieldLink "BundleHouse$Walker" (22 : Nat) "BundleHouse$Walker" "machine" "LBundleHouse$Machine;") ∈ GT := gt_of (ts_2 (List.mem_of_getElem? (i := 143) rfl)) rfl
theorem g_2_144 : (Jvm.Cond.fieldLink "BundleHouse$Walker" (12 : Nat) "BundleHouse$Walker" "item" "LBundleHouse$Instruction;") ∈ GT := gt_of (ts_2 (List.mem_of_getElem? (i := 144) rfl)) rfl
theorem g_2_145 : (Jvm.Cond.fieldLink "BundleHouse$Walker" (32 : Nat) "BundleHouse$Walker" "at" "I") ∈ GT := gt_of (ts_2 (List.mem_of_getElem? (i := 145) rfl)) rfl
theorem g_2_146 : (Jvm.Cond.laysFinal "BundleHouse$Walker" "BundleHouse$Walker" "program" "LBundleHouse$Program;") ∈ GT := gt_of (ts_2 (List.mem_of_getElem? (i := 146) rfl)) rfl
theorem g_2_148 : (Jvm.Cond.laysFinal "BundleHouse$Walker" "BundleHouse$Walker" "machine" "LBundleHouse$Machine;") ∈ GT := gt_of (ts_2 (List.mem_of_getElem? (i := 148) rfl)) rfl
theorem g_2_15 : (Jvm.Cond.fieldLink "BundleHouse$Builder" (37 : Nat) "BundleHouse$Builder" "target" "LBundleHouse$Strip;") ∈ GT := gt_of (ts_2 (List.mem_of_getElem? (i := 15) rfl)) rfl
theorem g_2_150 : (Jvm.Cond.laysFinal "BundleHouse$Walker" "BundleHouse$Walker" "item" "LBundleHouse$Instruction;") ∈ GT := gt_of (ts_2 (List.mem_of_getElem? (i := 150) rfl)) rfl
theorem g_2_152 : (Jvm.Cond.lays "BundleHouse$Walker" "BundleHouse$Walker" "at" "I") ∈ GT := gt_of (ts_2 (List.mem_of_getElem? (i := 152) rfl)) rfl
theorem g_2_155 : (Jvm.Cond.fieldLink "BundleHouse" (12 : Nat) "BundleHouse" "tape" "LBundleHouse$Strip;") ∈ GT := gt_of (ts_2 (List.mem_of_getElem? (i := 155) rfl)) rfl
theorem g_2_156 : (Jvm.Cond.fieldLink "BundleHouse" (21 : Nat) "BundleHouse" "tapePolicy" "LBundleHouse$Policy;") ∈ GT := gt_of (ts_2 (List.mem_of_getElem? (i := 156) rfl)) rfl
theorem g_2_157 : (Jvm.Cond.fieldLink "BundleHouse" (25 : Nat) "BundleHouse" "theCode" "LBundleHouse$Strip;") ∈ GT := gt_of (ts_2 (List.mem_of_getElem? (i := 157) rfl)) rfl
theorem g_2_158 : (Jvm.Cond.fieldLink "BundleHouse" (28 : Nat) "BundleHouse" "codePolicy" "LBundleHouse$Policy;") ∈ GT := gt_of (ts_2 (List.mem_of_getElem? (i := 158) rfl)) rfl
theorem g_2_16 : (Jvm.Cond.fieldLink "BundleHouse$Builder" (18 : Nat) "BundleHouse$Builder" "piece" "LBundleHouse$Piece;") ∈ GT := gt_of (ts_2 (List.mem_of_getElem? (i := 16) rfl)) rfl
theorem g_2_160 : (Jvm.Cond.fieldLink "BundleHouse" (41 : Nat) "BundleHouse" "draft" "LBundleHouse$Program;") ∈ GT := gt_of (ts_2 (List.mem_of_getElem? (i := 160) rfl)) rfl
theorem g_2_161 : (Jvm.Cond.fieldLink "BundleHouse" (50 : Nat) "BundleHouse" "builder" "LBundleHouse$Builder;") ∈ GT := gt_of (ts_2 (List.mem_of_getElem? (i := 161) rfl)) rfl
theorem g_2_162 : (Jvm.Cond.fieldLink "BundleHouse" (54 : Nat) "BundleHouse" "program" "LBundleHouse$Program;") ∈ GT := gt_of (ts_2 (List.mem_of_getElem? (i := 162) rfl)) rfl
theorem g_2_163 : (Jvm.Cond.fieldLink "BundleHouse" (60 : Nat) "BundleHouse" "first" "LBundleHouse$Machine;") ∈ GT := gt_of (ts_2 (List.mem_of_getElem? (i := 163) rfl)) rfl
theorem g_2_164 : (Jvm.Cond.fieldLink "BundleHouse" (64 : Nat) "BundleHouse" "runMachine" "LBundleHouse$Machine;") ∈ GT := gt_of (ts_2 (List.mem_of_getElem? (i := 164) rfl)) rfl
theorem g_2_165 : (Jvm.Cond.fieldLink "BundleHouse" (67 : Nat) "BundleHouse" "walkMachine" "LBundleHouse$Machine;") ∈ GT := gt_of (ts_2 (List.mem_of_getElem? (i := 165) rfl)) rfl
theorem g_2_168 : (Jvm.Cond.fieldLink "BundleHouse" (112 : Nat) "BundleHouse" "hasProgram" "Z") ∈ GT := gt_of (ts_2 (List.mem_of_getElem? (i := 168) rfl)) rfl
theorem g_2_169 : (Jvm.Cond.fieldLink "BundleHouse" (103 : Nat) "BundleHouse" "latestFault" "I") ∈ GT := gt_of (ts_2 (List.mem_of_getElem? (i := 169) rfl)) rfl
theorem g_2_17 : (Jvm.Cond.fieldLink "BundleHouse$Builder" (25 : Nat) "BundleHouse$Builder" "item" "LBundleHouse$Instruction;") ∈ GT := gt_of (ts_2 (List.mem_of_getElem? (i := 17) rfl)) rfl
theorem g_2_170 : (Jvm.Cond.fieldLink "BundleHouse" (88 : Nat) "BundleHouse" "latestPlace" "I") ∈ GT := gt_of (ts_2 (List.mem_of_getElem? (i := 170) rfl)) rfl
theorem g_2_171 : (Jvm.Cond.laysFinal "BundleHouse" "BundleHouse" "tape" "LBundleHouse$Strip;") ∈ GT := gt_of (ts_2 (List.mem_of_getElem? (i := 171) rfl)) rfl
theorem g_2_173 : (Jvm.Cond.laysFinal "BundleHouse" "BundleHouse" "tapePolicy" "LBundleHouse$Policy;") ∈ GT := gt_of (ts_2 (List.mem_of_getElem? (i := 173) rfl)) rfl
theorem g_2_175 : (Jvm.Cond.laysFinal "BundleHouse" "BundleHouse" "theCode" "LBundleHouse$Strip;") ∈ GT := gt_of (ts_2 (List.mem_of_getElem? (i := 175) rfl)) rfl
theorem g_2_177 : (Jvm.Cond.laysFinal "BundleHouse" "BundleHouse" "codePolicy" "LBundleHouse$Policy;") ∈ GT := gt_of (ts_2 (List.mem_of_getElem? (i := 177) rfl)) rfl
theorem g_2_179 : (Jvm.Cond.laysFinal "BundleHouse" "BundleHouse" "codeReader" "LBundleHouse$Reader;") ∈ GT := gt_of (ts_2 (List.mem_of_getElem? (i := 179) rfl)) rfl
theorem g_2_18 : (Jvm.Cond.fieldLink "BundleHouse$Builder" (29 : Nat) "BundleHouse$Builder" "length" "[I") ∈ GT := gt_of (ts_2 (List.mem_of_getElem? (i := 18) rfl)) rfl
theorem g_2_181 : (Jvm.Cond.laysFinal "BundleHouse" "BundleHouse" "draft" "LBundleHouse$Program;") ∈ GT := gt_of (ts_2 (List.mem_of_getElem? (i := 181) rfl)) rfl
theorem g_2_183 : (Jvm.Cond.laysFinal "BundleHouse" "BundleHouse" "builder" "LBundleHouse$Builder;") ∈ GT := gt_of (ts_2 (List.mem_of_getElem? (i := 183) rfl)) rfl
theorem g_2_185 : (Jvm.Cond.laysFinal "BundleHouse" "BundleHouse" "program" "LBundleHouse$Program;") ∈ GT := gt_of (ts_2 (List.mem_of_getElem? (i := 185) rfl)) rfl
theorem g_2_187 : (Jvm.Cond.laysFinal "BundleHouse" "BundleHouse" "first" "LBundleHouse$Machine;") ∈ GT := gt_of (ts_2 (List.mem_of_getElem? (i := 187) rfl)) rfl
theorem g_2_189 : (Jvm.Cond.laysFinal "BundleHouse" "BundleHouse" "runMachine" "LBundleHouse$Machine;") ∈ GT := gt_of (ts_2 (List.mem_of_getElem? (i := 189) rfl)) rfl
theorem g_2_19 : (Jvm.Cond.fieldLink "BundleHouse$Builder" (92 : Nat) "BundleHouse$Builder" "next" "I") ∈ GT := gt_of (ts_2 (List.mem_of_getElem? (i := 19) rfl)) rfl
theorem g_2_191 : (Jvm.Cond.laysFinal "BundleHouse" "BundleHouse" "walkMachine" "LBundleHouse$Machine;") ∈ GT := gt_of (ts_2 (List.mem_of_getElem? (i := 191) rfl)) rfl
theorem g_2_193 : (Jvm.Cond.laysFinal "BundleHouse" "BundleHouse" "runner" "LBundleHouse$Runner;") ∈ GT := gt_of (ts_2 (List.mem_of_getElem? (i := 193) rfl)) rfl
theorem g_2_195 : (Jvm.Cond.laysFinal "BundleHouse" "BundleHouse" "walker" "LBundleHouse$Walker;") ∈ GT := gt_of (ts_2 (List.mem_of_getElem? (i := 195) rfl)) rfl
theorem g_2_197 : (Jvm.Cond.lays "BundleHouse" "BundleHouse" "hasProgram" "Z") ∈ GT := gt_of (ts_2 (List.mem_of_getElem? (i := 197) rfl)) rfl
theorem g_2_199 : (Jvm.Cond.lays "BundleHouse" "BundleHouse" "latestFault" "I") ∈ GT := gt_of (ts_2 (List.mem_of_getElem? (i := 199) rfl)) rfl
theorem g_2_2 : (Jvm.Cond.fieldLink "BundleHouse$Piece" (15 : Nat) "BundleHouse$Piece" "count" "I") ∈ GT := gt_of (ts_2 (List.mem_of_getElem? (i := 2) rfl)) rfl
theorem g_2_20 : (Jvm.Cond.lays "BundleHouse$Builder" "BundleHouse$Builder" "faultItem" "I") ∈ GT := gt_of (ts_2 (List.mem_of_getElem? (i := 20) rfl)) rfl
theorem g_2_201 : (Jvm.Cond.lays "BundleHouse" "BundleHouse" "latestPlace" "I") ∈ GT := gt_of (ts_2 (List.mem_of_getElem? (i := 201) rfl)) rfl
theorem g_2_205 : (Jvm.Cond.instanceMethod ({ cls := "BundleHouse", name := "feed", desc := "(IIIII)Z" } : Jvm.MethodName)) ∈ GT := gt_of (ts_2 (List.mem_of_getElem? (i := 205) rfl)) rfl
theorem g_2_206 : (Jvm.Cond.selects "BundleHouse" ({ cls := "BundleHouse", name := "feed", desc := "(IIIII)Z" } : Jvm.MethodName) ({ cls := "BundleHouse", name := "feed", desc := "(IIIII)Z" } : Jvm.MethodName)) ∈ GT := gt_of (ts_2 (List.mem_of_getElem? (i := 206) rfl)) rfl
theorem g_2_207 : (Jvm.Cond.code ({ cls := "BundleHouse", name := "feed", desc := "(IIIII)Z" } : Jvm.MethodName) prog_1_method_2_code (6 : Nat) (Option.some Jvm.ClassFile.FieldType.boolean)) ∈ GT := gt_of (ts_2 (List.mem_of_getElem? (i := 207) rfl)) rfl
theorem g_2_208 : (Jvm.Cond.methodLink "BundleHouse" (95 : Nat) ({ cls := "BundleHouse$Strip", name := "addFour", desc := "(I)V" } : Jvm.MethodName)) ∈ GT := gt_of (ts_2 (List.mem_of_getElem? (i := 208) rfl)) rfl
theorem g_2_209 : (Jvm.Cond.instanceMethod ({ cls := "BundleHouse$Strip", name := "addFour", desc := "(I)V" } : Jvm.MethodName)) ∈ GT := gt_of (ts_2 (List.mem_of_getElem? (i := 209) rfl)) rfl
theorem g_2_210 : (Jvm.Cond.selects "BundleHouse$Strip" ({ cls := "BundleHouse$Strip", name := "addFour", desc := "(I)V" } : Jvm.MethodName) ({ cls := "BundleHouse$Strip", name := "addFour", desc := "(I)V" } : Jvm.MethodName)) ∈ GT := gt_of (ts_2 (List.mem_of_getElem? (i := 210) rfl)) rfl
theorem g_2_211 : (Jvm.Cond.code ({ cls := "BundleHouse$Strip", name := "addFour", desc := "(I)V" } : Jvm.MethodName) prog_11_method_2_code (3 : Nat) (Option.none : Option Jvm.ClassFile.FieldType)) ∈ GT := gt_of (ts_2 (List.mem_of_getElem? (i := 211) rfl)) rfl
theorem g_2_213 : (Jvm.Cond.instanceMethod ({ cls := "BundleHouse", name := "end", desc := "(I)Z" } : Jvm.MethodName)) ∈ GT := gt_of (ts_2 (List.mem_of_getElem? (i := 213) rfl)) rfl
theorem g_2_214 : (Jvm.Cond.selects "BundleHouse" ({ cls := "BundleHouse", name := "end", desc := "(I)Z" } : Jvm.MethodName) ({ cls := "BundleHouse", name := "end", desc := "(I)Z" } : Jvm.MethodName)) ∈ GT := gt_of (ts_2 (List.mem_of_getElem? (i := 214) rfl)) rfl
theorem g_2_215 : (Jvm.Cond.code ({ cls := "BundleHouse", name := "end", desc := "(I)Z" } : Jvm.MethodName) prog_1_method_3_code (2 : Nat) (Option.some Jvm.ClassFile.FieldType.boolean)) ∈ GT := gt_of (ts_2 (List.mem_of_getElem? (i := 215) rfl)) rfl
theorem g_2_217 : (Jvm.Cond.instanceMethod ({ cls := "BundleHouse", name := "check", desc := "()I" } : Jvm.MethodName)) ∈ GT := gt_of (ts_2 (List.mem_of_getElem? (i := 217) rfl)) rfl
theorem g_2_218 : (Jvm.Cond.selects "BundleHouse" ({ cls := "BundleHouse", name := "check", desc := "()I" } : Jvm.MethodName) ({ cls := "BundleHouse", name := "check", desc := "()I" } : Jvm.MethodName)) ∈ GT := gt_of (ts_2 (List.mem_of_getElem? (i := 218) rfl)) rfl
theorem g_2_219 : (Jvm.Cond.code ({ cls := "BundleHouse", name := "check", desc := "()I" } : Jvm.MethodName) prog_1_method_4_code (1 : Nat) (Option.some Jvm.ClassFile.FieldType.int)) ∈ GT := gt_of (ts_2 (List.mem_of_getElem? (i := 219) rfl)) rfl
theorem g_2_22 : (Jvm.Cond.laysFinal "BundleHouse$Builder" "BundleHouse$Builder" "draft" "LBundleHouse$Program;") ∈ GT := gt_of (ts_2 (List.mem_of_getElem? (i := 22) rfl)) rfl
theorem g_2_220 : (Jvm.Cond.methodLink "BundleHouse" (99 : Nat) ({ cls := "BundleHouse$Policy", name := "findFault", desc := "()I" } : Jvm.MethodName)) ∈ GT := gt_of (ts_2 (List.mem_of_getElem? (i := 220) rfl)) rfl
theorem g_2_221 : (Jvm.Cond.instanceMethod ({ cls := "BundleHouse$Policy", name := "findFault", desc := "()I" } : Jvm.MethodName)) ∈ GT := gt_of (ts_2 (List.mem_of_getElem? (i := 221) rfl)) rfl
theorem g_2_222 : (Jvm.Cond.selects "BundleHouse$Policy" ({ cls := "BundleHouse$Policy", name := "findFault", desc := "()I" } : Jvm.MethodName) ({ cls := "BundleHouse$Policy", name := "findFault", desc := "()I" } : Jvm.MethodName)) ∈ GT := gt_of (ts_2 (List.mem_of_getElem? (i := 222) rfl)) rfl
theorem g_2_223 : (Jvm.Cond.code ({ cls := "BundleHouse$Policy", name := "findFault", desc := "()I" } : Jvm.MethodName) prog_7_method_2_code (4 : Nat) (Option.some Jvm.ClassFile.FieldType.int)) ∈ GT := gt_of (ts_2 (List.mem_of_getElem? (i := 223) rfl)) rfl
theorem g_2_224 : (Jvm.Cond.methodLink "BundleHouse$Policy" (33 : Nat) ({ cls := "BundleHouse$Strip", name := "dropMarks", desc := "()V" } : Jvm.MethodName)) ∈ GT := gt_of (ts_2 (List.mem_of_getElem? (i := 224) rfl)) rfl
theorem g_2_225 : (Jvm.Cond.instanceMethod ({ cls := "BundleHouse$Strip", name := "dropMarks", desc := "()V" } : Jvm.MethodName)) ∈ GT := gt_of (ts_2 (List.mem_of_getElem? (i := 225) rfl)) rfl
theorem g_2_226 : (Jvm.Cond.selects "BundleHouse$Strip" ({ cls := "BundleHouse$Strip", name := "dropMarks", desc := "()V" } : Jvm.MethodName) ({ cls := "BundleHouse$Strip", name := "dropMarks", desc := "()V" } : Jvm.MethodName)) ∈ GT := gt_of (ts_2 (List.mem_of_getElem? (i := 226) rfl)) rfl
theorem g_2_227 : (Jvm.Cond.code ({ cls := "BundleHouse$Strip", name := "dropMarks", desc := "()V" } : Jvm.MethodName) prog_11_method_8_code (2 : Nat) (Option.none : Option Jvm.ClassFile.FieldType)) ∈ GT := gt_of (ts_2 (List.mem_of_getElem? (i := 227) rfl)) rfl
theorem g_2_228 : (Jvm.Cond.methodLink "BundleHouse$Policy" (36 : Nat) ({ cls := "BundleHouse$Policy", name := "bundleFault", desc := "(I)I" } : Jvm.MethodName)) ∈ GT := gt_of (ts_2 (List.mem_of_getElem? (i := 228) rfl)) rfl
theorem g_2_230 : (Jvm.Cond.instanceMethod ({ cls := "BundleHouse$Policy", name := "bundleFault", desc := "(I)I" } : Jvm.MethodName)) ∈ GT := gt_of (ts_2 (List.mem_of_getElem? (i := 230) rfl)) rfl
theorem g_2_231 : (Jvm.Cond.code ({ cls := "BundleHouse$Policy", name := "bundleFault", desc := "(I)I" } : Jvm.MethodName) prog_7_method_3_code (7 : Nat) (Option.some Jvm.ClassFile.FieldType.int)) ∈ GT := gt_of (ts_2 (List.mem_of_getElem? (i := 231) rfl)) rfl
theorem g_2_232 : (Jvm.Cond.methodLink "BundleHouse$Policy" (44 : Nat) ({ cls := "BundleHouse$Reader", name := "read", desc := "(I)Z" } : Jvm.MethodName)) ∈ GT := gt_of (ts_2 (List.mem_of_getElem? (i := 232) rfl)) rfl
theorem g_2_233 : (Jvm.Cond.instanceMethod ({ cls := "BundleHouse$Reader", name := "read", desc := "(I)Z" } : Jvm.MethodName)) ∈ GT := gt_of (ts_2 (List.mem_of_getElem? (i := 233) rfl)) rfl
theorem g_2_234 : (Jvm.Cond.selects "BundleHouse$Reader" ({ cls := "BundleHouse$Reader", name := "read", desc := "(I)Z" } : Jvm.MethodName) ({ cls := "BundleHouse$Reader", name := "read", desc := "(I)Z" } : Jvm.MethodName)) ∈ GT := gt_of (ts_2 (List.mem_of_getElem? (i := 234) rfl)) rfl
theorem g_2_235 : (Jvm.Cond.code ({ cls := "BundleHouse$Reader", name := "read", desc := "(I)Z" } : Jvm.MethodName) prog_9_method_2_code (3 : Nat) (Option.some Jvm.ClassFile.FieldType.boolean)) ∈ GT := gt_of (ts_2 (List.mem_of_getElem? (i := 235) rfl)) rfl
theorem g_2_236 : (Jvm.Cond.methodLink "BundleHouse$Reader" (36 : Nat) ({ cls := "BundleHouse$Instruction", name := "fill", desc := "(IIIIII)V" } : Jvm.MethodName)) ∈ GT := gt_of (ts_2 (List.mem_of_getElem? (i := 236) rfl)) rfl
theorem g_2_237 : (Jvm.Cond.instanceMethod ({ cls := "BundleHouse$Instruction", name := "fill", desc := "(IIIIII)V" } : Jvm.MethodName)) ∈ GT := gt_of (ts_2 (List.mem_of_getElem? (i := 237) rfl)) rfl
theorem g_2_238 : (Jvm.Cond.selects "BundleHouse$Instruction" ({ cls := "BundleHouse$Instruction", name := "fill", desc := "(IIIIII)V" } : Jvm.MethodName) ({ cls := "BundleHouse$Instruction", name := "fill", desc := "(IIIIII)V" } : Jvm.MethodName)) ∈ GT := gt_of (ts_2 (List.mem_of_getElem? (i := 238) rfl)) rfl
theorem g_2_239 : (Jvm.Cond.code ({ cls := "BundleHouse$Instruction", name := "fill", desc := "(IIIIII)V" } : Jvm.MethodName) prog_4_method_2_code (7 : Nat) (Option.none : Option Jvm.ClassFile.FieldType)) ∈ GT := gt_of (ts_2 (List.mem_of_getElem? (i := 239) rfl)) rfl
theorem g_2_24 : (Jvm.Cond.laysFinal "BundleHouse$Builder" "BundleHouse$Builder" "target" "LBundleHouse$Strip;") ∈ GT := gt_of (ts_2 (List.mem_of_getElem? (i := 24) rfl)) rfl
theorem g_2_26 : (Jvm.Cond.laysFinal "BundleHouse$Builder" "BundleHouse$Builder" "piece" "LBundleHouse$Piece;") ∈ GT := gt_of (ts_2 (List.mem_of_getElem? (i := 26) rfl)) rfl
theorem g_2_28 : (Jvm.Cond.laysFinal "BundleHouse$Builder" "BundleHouse$Builder" "item" "LBundleHouse$Instruction;") ∈ GT := gt_of (ts_2 (List.mem_of_getElem? (i := 28) rfl)) rfl
theorem g_2_3 : (Jvm.Cond.fieldLink "BundleHouse$Strip" (22 : Nat) "BundleHouse$Piece" "count" "I") ∈ GT := gt_of (ts_2 (List.mem_of_getElem? (i := 3) rfl)) rfl
theorem g_2_30 : (Jvm.Cond.laysFinal "BundleHouse$Builder" "BundleHouse$Builder" "length" "[I") ∈ GT := gt_of (ts_2 (List.mem_of_getElem? (i := 30) rfl)) rfl
theorem g_2_32 : (Jvm.Cond.lays "BundleHouse$Builder" "BundleHouse$Builder" "next" "I") ∈ GT := gt_of (ts_2 (List.mem_of_getElem? (i := 32) rfl)) rfl
theorem g_2_4 : (Jvm.Cond.fieldLink "BundleHouse$Builder" (91 : Nat) "BundleHouse$Piece" "count" "I") ∈ GT := gt_of (ts_2 (List.mem_of_getElem? (i := 4) rfl)) rfl
theorem g_2_47 : (Jvm.Cond.fieldLink "BundleHouse$Flags" (9 : Nat) "BundleHouse$Flags" "carry" "I") ∈ GT := gt_of (ts_2 (List.mem_of_getElem? (i := 47) rfl)) rfl
theorem g_2_48 : (Jvm.Cond.fieldLink "BundleHouse$Machine" (70 : Nat) "BundleHouse$Flags" "carry" "I") ∈ GT := gt_of (ts_2 (List.mem_of_getElem? (i := 48) rfl)) rfl
theorem g_2_49 : (Jvm.Cond.fieldLink "BundleHouse$Flags" (15 : Nat) "BundleHouse$Flags" "zero" "I") ∈ GT := gt_of (ts_2 (List.mem_of_getElem? (i := 49) rfl)) rfl
theorem g_2_5 : (Jvm.Cond.laysFinal "BundleHouse$Piece" "BundleHouse$Piece" "row" "[I") ∈ GT := gt_of (ts_2 (List.mem_of_getElem? (i := 5) rfl)) rfl
theorem g_2_50 : (Jvm.Cond.fieldLink "BundleHouse$Machine" (73 : Nat) "BundleHouse$Flags" "zero" "I") ∈ GT := gt_of (ts_2 (List.mem_of_getElem? (i := 50) rfl)) rfl
theorem g_2_51 : (Jvm.Cond.fieldLink "BundleHouse$Flags" (18 : Nat) "BundleHouse$Flags" "sign" "I") ∈ GT := gt_of (ts_2 (List.mem_of_getElem? (i := 51) rfl)) rfl
theorem g_2_52 : (Jvm.Cond.fieldLink "BundleHouse$Machine" (76 : Nat) "BundleHouse$Flags" "sign" "I") ∈ GT := gt_of (ts_2 (List.mem_of_getElem? (i := 52) rfl)) rfl
theorem g_2_53 : (Jvm.Cond.fieldLink "BundleHouse$Flags" (21 : Nat) "BundleHouse$Flags" "overflow" "I") ∈ GT := gt_of (ts_2 (List.mem_of_getElem? (i := 53) rfl)) rfl
theorem g_2_54 : (Jvm.Cond.fieldLink "BundleHouse$Machine" (79 : Nat) "BundleHouse$Flags" "overflow" "I") ∈ GT := gt_of (ts_2 (List.mem_of_getElem? (i := 54) rfl)) rfl
theorem g_2_55 : (Jvm.Cond.lays "BundleHouse$Flags" "BundleHouse$Flags" "carry" "I") ∈ GT := gt_of (ts_2 (List.mem_of_getElem? (i := 55) rfl)) rfl
theorem g_2_57 : (Jvm.Cond.lays "BundleHouse$Flags" "BundleHouse$Flags" "zero" "I") ∈ GT := gt_of (ts_2 (List.mem_of_getElem? (i := 57) rfl)) rfl
theorem g_2_59 : (Jvm.Cond.lays "BundleHouse$Flags" "BundleHouse$Flags" "sign" "I") ∈ GT := gt_of (ts_2 (List.mem_of_getElem? (i := 59) rfl)) rfl
theorem g_2_61 : (Jvm.Cond.lays "BundleHouse$Flags" "BundleHouse$Flags" "overflow" "I") ∈ GT := gt_of (ts_2 (List.mem_of_getElem? (i := 61) rfl)) rfl
theorem g_2_64 : (Jvm.Cond.fieldLink "BundleHouse$Machine" (12 : Nat) "BundleHouse$Machine" "flags" "LBundleHouse$Flags;") ∈ GT := gt_of (ts_2 (List.mem_of_getElem? (i := 64) rfl)) rfl
theorem g_2_65 : (Jvm.Cond.fieldLink "BundleHouse$Runner" (114 : Nat) "BundleHouse$Machine" "flags" "LBundleHouse$Flags;") ∈ GT := gt_of (ts_2 (List.mem_of_getElem? (i := 65) rfl)) rfl
theorem g_2_66 : (Jvm.Cond.fieldLink "BundleHouse$Walker" (106 : Nat) "BundleHouse$Machine" "flags" "LBundleHouse$Flags;") ∈ GT := gt_of (ts_2 (List.mem_of_getElem? (i := 66) rfl)) rfl
theorem g_2_67 : (Jvm.Cond.fieldLink "BundleHouse$Runner" (23 : Nat) "BundleHouse$Machine" "address" "I") ∈ GT := gt_of (ts_2 (List.mem_of_getElem? (i := 67) rfl)) rfl
theorem g_2_68 : (Jvm.Cond.fieldLink "BundleHouse$Walker" (67 : Nat) "BundleHouse$Machine" "address" "I") ∈ GT := gt_of (ts_2 (List.mem_of_getElem? (i := 68) rfl)) rfl
theorem g_2_69 : (Jvm.Cond.fieldLink "BundleHouse$Machine" (55 : Nat) "BundleHouse$Machine" "address" "I") ∈ GT := gt_of (ts_2 (List.mem_of_getElem? (i := 69) rfl)) rfl
theorem g_2_7 : (Jvm.Cond.lays "BundleHouse$Piece" "BundleHouse$Piece" "count" "I") ∈ GT := gt_of (ts_2 (List.mem_of_getElem? (i := 7) rfl)) rfl
theorem g_2_70 : (Jvm.Cond.fieldLink "BundleHouse$Walker" (75 : Nat) "BundleHouse$Machine" "steps" "I") ∈ GT := gt_of (ts_2 (List.mem_of_getElem? (i := 70) rfl)) rfl
theorem g_2_71 : (Jvm.Cond.fieldLink "BundleHouse$Runner" (43 : Nat) "BundleHouse$Machine" "steps" "I") ∈ GT := gt_of (ts_2 (List.mem_of_getElem? (i := 71) rfl)) rfl
theorem g_2_72 : (Jvm.Cond.fieldLink "BundleHouse$Machine" (58 : Nat) "BundleHouse$Machine" "steps" "I") ∈ GT := gt_of (ts_2 (List.mem_of_getElem? (i := 72) rfl)) rfl
theorem g_2_73 : (Jvm.Cond.fieldLink "BundleHouse$Runner" (40 : Nat) "BundleHouse$Machine" "stop" "I") ∈ GT := gt_of (ts_2 (List.mem_of_getElem? (i := 73) rfl)) rfl
theorem g_2_74 : (Jvm.Cond.fieldLink "BundleHouse$Walker" (72 : Nat) "BundleHouse$Machine" "stop" "I") ∈ GT := gt_of (ts_2 (List.mem_of_getElem? (i := 74) rfl)) rfl
theorem g_2_75 : (Jvm.Cond.fieldLink "BundleHouse$Machine" (61 : Nat) "BundleHouse$Machine" "stop" "I") ∈ GT := gt_of (ts_2 (List.mem_of_getElem? (i := 75) rfl)) rfl
theorem g_2_76 : (Jvm.Cond.fieldLink "BundleHouse$Machine" (64 : Nat) "BundleHouse$Machine" "strays" "I") ∈ GT := gt_of (ts_2 (List.mem_of_getElem? (i := 76) rfl)) rfl
theorem g_2_77 : (Jvm.Cond.fieldLink "BundleHouse$Runner" (90 : Nat) "BundleHouse$Machine" "strays" "I") ∈ GT := gt_of (ts_2 (List.mem_of_getElem? (i := 77) rfl)) rfl
theorem g_2_78 : (Jvm.Cond.fieldLink "BundleHouse$Machine" (51 : Nat) "BundleHouse$Machine" "isHidden" "Z") ∈ GT := gt_of (ts_2 (List.mem_of_getElem? (i := 78) rfl)) rfl
theorem g_2_79 : (Jvm.Cond.fieldLink "BundleHouse$Walker" (152 : Nat) "BundleHouse$Machine" "isHidden" "Z") ∈ GT := gt_of (ts_2 (List.mem_of_getElem? (i := 79) rfl)) rfl
theorem g_2_80 : (Jvm.Cond.fieldLink "BundleHouse$Machine" (67 : Nat) "BundleHouse$Machine" "hasRun" "Z") ∈ GT := gt_of (ts_2 (List.mem_of_getElem? (i := 80) rfl)) rfl
theorem g_2_81 : (Jvm.Cond.fieldLink "BundleHouse" (224 : Nat) "BundleHouse$Machine" "hasRun" "Z") ∈ GT := gt_of (ts_2 (List.mem_of_getElem? (i := 81) rfl)) rfl
theorem g_2_82 : (Jvm.Cond.fieldLink "BundleHouse$Machine" (18 : Nat) "BundleHouse$Machine" "register" "[I") ∈ GT := gt_of (ts_2 (List.mem_of_getElem? (i := 82) rfl)) rfl
theorem g_2_83 : (Jvm.Cond.fieldLink "BundleHouse$Machine" (22 : Nat) "BundleHouse$Machine" "bytes" "[I") ∈ GT := gt_of (ts_2 (List.mem_of_getElem? (i := 83) rfl)) rfl
theorem g_2_84 : (Jvm.Cond.fieldLink "BundleHouse$Machine" (25 : Nat) "BundleHouse$Machine" "inputRow" "[I") ∈ GT := gt_of (ts_2 (List.mem_of_getElem? (i := 84) rfl)) rfl
theorem g_2_85 : (Jvm.Cond.fieldLink "BundleHouse$Machine" (31 : Nat) "BundleHouse$Machine" "inputCount" "I") ∈ GT := gt_of (ts_2 (List.mem_of_getElem? (i := 85) rfl)) rfl
theorem g_2_86 : (Jvm.Cond.fieldLink "BundleHouse$Machine" (41 : Nat) "BundleHouse$Machine" "inputNext" "I") ∈ GT := gt_of (ts_2 (List.mem_of_getElem? (i := 86) rfl)) rfl
theorem g_2_87 : (Jvm.Cond.fieldLink "BundleHouse$Machine" (28 : Nat) "BundleHouse$Machine" "outputRow" "[I") ∈ GT := gt_of (ts_2 (List.mem_of_getElem? (i := 87) rfl)) rfl
theorem g_2_88 : (Jvm.Cond.fieldLink "BundleHouse$Machine" (44 : Nat) "BundleHouse$Machine" "outputCount" "I") ∈ GT := gt_of (ts_2 (List.mem_of_getElem? (i := 88) rfl)) rfl
theorem g_2_89 : (Jvm.Cond.laysFinal "BundleHouse$Machine" "BundleHouse$Machine" "flags" "LBundleHouse$Flags;") ∈ GT := gt_of (ts_2 (List.mem_of_getElem? (i := 89) rfl)) rfl
theorem g_2_91 : (Jvm.Cond.lays "BundleHouse$Machine" "BundleHouse$Machine" "address" "I") ∈ GT := gt_of (ts_2 (List.mem_of_getElem? (i := 91) rfl)) rfl
theorem g_2_93 : (Jvm.Cond.lays "BundleHouse$Machine" "BundleHouse$Machine" "steps" "I") ∈ GT := gt_of (ts_2 (List.mem_of_getElem? (i := 93) rfl)) rfl
theorem g_2_95 : (Jvm.Cond.lays "BundleHouse$Machine" "BundleHouse$Machine" "stop" "I") ∈ GT := gt_of (ts_2 (List.mem_of_getElem? (i := 95) rfl)) rfl
theorem g_2_97 : (Jvm.Cond.lays "BundleHouse$Machine" "BundleHouse$Machine" "strays" "I") ∈ GT := gt_of (ts_2 (List.mem_of_getElem? (i := 97) rfl)) rfl
theorem g_2_99 : (Jvm.Cond.lays "BundleHouse$Machine" "BundleHouse$Machine" "isHidden" "Z") ∈ GT := gt_of (ts_2 (List.mem_of_getElem? (i := 99) rfl)) rfl
theorem g_3_0 : (Jvm.Cond.methodLink "BundleHouse$Reader" (40 : Nat) ({ cls := "BundleHouse$Reader", name := "take", desc := "()I" } : Jvm.MethodName)) ∈ GT := gt_of (ts_3 (List.mem_of_getElem? (i := 0) rfl)) rfl
theorem g_3_10 : (Jvm.Cond.instanceMethod ({ cls := "BundleHouse$Reader", name := "expectOperand", desc := "(III)V" } : Jvm.MethodName)) ∈ GT := gt_of (ts_3 (List.mem_of_getElem? (i := 10) rfl)) rfl
theorem g_3_100 : (Jvm.Cond.code ({ cls := "BundleHouse", name := "plain", desc := "(IIIIII)I" } : Jvm.MethodName) prog_1_method_6_code (7 : Nat) (Option.some Jvm.ClassFile.FieldType.int)) ∈ GT := gt_of (ts_3 (List.mem_of_getElem? (i := 100) rfl)) rfl
theorem g_3_101 : (Jvm.Cond.methodLink "BundleHouse" (119 : Nat) ({ cls := "BundleHouse$Program", name := "isFull", desc := "()Z" } : Jvm.MethodName)) ∈ GT := gt_of (ts_3 (List.mem_of_getElem? (i := 101) rfl)) rfl
theorem g_3_102 : (Jvm.Cond.instanceMethod ({ cls := "BundleHouse$Program", name := "isFull", desc := "()Z" } : Jvm.MethodName)) ∈ GT := gt_of (ts_3 (List.mem_of_getElem? (i := 102) rfl)) rfl
theorem g_3_103 : (Jvm.Cond.selects "BundleHouse$Program" ({ cls := "BundleHouse$Program", name := "isFull", desc := "()Z" } : Jvm.MethodName) ({ cls := "BundleHouse$Program", name := "isFull", desc := "()Z" } : Jvm.MethodName)) ∈ GT := gt_of (ts_3 (List.mem_of_getElem? (i := 103) rfl)) rfl
theorem g_3_104 : (Jvm.Cond.code ({ cls := "BundleHouse$Program", name := "isFull", desc := "()Z" } : Jvm.MethodName) prog_8_method_2_code (1 : Nat) (Option.some Jvm.ClassFile.FieldType.boolean)) ∈ GT := gt_of (ts_3 (List.mem_of_getElem? (i := 104) rfl)) rfl
theorem g_3_105 : (Jvm.Cond.methodLink "BundleHouse" (123 : Nat) ({ cls := "BundleHouse", name := "isPlain", desc := "(IIIII)Z" } : Jvm.MethodName)) ∈ GT := gt_of (ts_3 (List.mem_of_getElem? (i := 105) rfl)) rfl
theorem g_3_106 : (Jvm.Cond.static ({ cls := "BundleHouse", name := "isPlain", desc := "(IIIII)Z" } : Jvm.MethodName)) ∈ GT := gt_of (ts_3 (List.mem_of_getElem? (i := 106) rfl)) rfl
theorem g_3_107 : (Jvm.Cond.code ({ cls := "BundleHouse", name := "isPlain", desc := "(IIIII)Z" } : Jvm.MethodName) prog_1_method_21_code (5 : Nat) (Option.some Jvm.ClassFile.FieldType.boolean)) ∈ GT := gt_of (ts_3 (List.mem_of_getElem? (i := 107) rfl)) rfl
theorem g_3_108 : (Jvm.Cond.fieldLink "BundleHouse" (239 : Nat) "BundleHouse" "FORMS" "[I") ∈ GT := gt_of (ts_3 (List.mem_of_getElem? (i := 108) rfl)) rfl
theorem g_3_11 : (Jvm.Cond.code ({ cls := "BundleHouse$Reader", name := "expectOperand", desc := "(III)V" } : Jvm.MethodName) prog_9_method_6_code (4 : Nat) (Option.none : Option Jvm.ClassFile.FieldType)) ∈ GT := gt_of (ts_3 (List.mem_of_getElem? (i := 11) rfl)) rfl
theorem g_3_110 : (Jvm.Cond.methodLink "BundleHouse" (185 : Nat) ({ cls := "BundleHouse", name := "isRegister", desc := "(I)Z" } : Jvm.MethodName)) ∈ GT := gt_of (ts_3 (List.mem_of_getElem? (i := 110) rfl)) rfl
theorem g_3_111 : (Jvm.Cond.static ({ cls := "BundleHouse", name := "isRegister", desc := "(I)Z" } : Jvm.MethodName)) ∈ GT := gt_of (ts_3 (List.mem_of_getElem? (i := 111) rfl)) rfl
theorem g_3_112 : (Jvm.Cond.code ({ cls := "BundleHouse", name := "isRegister", desc := "(I)Z" } : Jvm.MethodName) prog_1_method_23_code (1 : Nat) (Option.some Jvm.ClassFile.FieldType.boolean)) ∈ GT := gt_of (ts_3 (List.mem_of_getElem? (i := 112) rfl)) rfl
theorem g_3_113 : (Jvm.Cond.methodLink "BundleHouse" (243 : Nat) ({ cls := "BundleHouse", name := "isMemoryForm", desc := "(I)Z" } : Jvm.MethodName)) ∈ GT := gt_of (ts_3 (List.mem_of_getElem? (i := 113) rfl)) rfl
theorem g_3_114 : (Jvm.Cond.static ({ cls := "BundleHouse", name := "isMemoryForm", desc := "(I)Z" } : Jvm.MethodName)) ∈ GT := gt_of (ts_3 (List.mem_of_getElem? (i := 114) rfl)) rfl
theorem g_3_115 : (Jvm.Cond.code ({ cls := "BundleHouse", name := "isMemoryForm", desc := "(I)Z" } : Jvm.MethodName) prog_1_method_27_code (1 : Nat) (Option.some Jvm.ClassFile.FieldType.boolean)) ∈ GT := gt_of (ts_3 (List.mem_of_getElem? (i := 115) rfl)) rfl
theorem g_3_116 : (Jvm.Cond.methodLink "BundleHouse" (246 : Nat) ({ cls := "BundleHouse", name := "isMemory", desc := "(I)Z" } : Jvm.MethodName)) ∈ GT := gt_of (ts_3 (List.mem_of_getElem? (i := 116) rfl)) rfl
theorem g_3_117 : (Jvm.Cond.static ({ cls := "BundleHouse", name := "isMemory", desc := "(I)Z" } : Jvm.MethodName)) ∈ GT := gt_of (ts_3 (List.mem_of_getElem? (i := 117) rfl)) rfl
theorem g_3_118 : (Jvm.Cond.code ({ cls := "BundleHouse", name := "isMemory", desc := "(I)Z" } : Jvm.MethodName) prog_1_method_28_code (4 : Nat) (Option.some Jvm.ClassFile.FieldType.boolean)) ∈ GT := gt_of (ts_3 (List.mem_of_getElem? (i := 118) rfl)) rfl
theorem g_3_119 : (Jvm.Cond.methodLink "BundleHouse" (249 : Nat) ({ cls := "BundleHouse", name := "isShift", desc := "(I)Z" } : Jvm.MethodName)) ∈ GT := gt_of (ts_3 (List.mem_of_getElem? (i := 119) rfl)) rfl
theorem g_3_12 : (Jvm.Cond.methodLink "BundleHouse$Reader" (102 : Nat) ({ cls := "BundleHouse$Reader", name := "expectBranch", desc := "(II)V" } : Jvm.MethodName)) ∈ GT := gt_of (ts_3 (List.mem_of_getElem? (i := 12) rfl)) rfl
theorem g_3_120 : (Jvm.Cond.static ({ cls := "BundleHouse", name := "isShift", desc := "(I)Z" } : Jvm.MethodName)) ∈ GT := gt_of (ts_3 (List.mem_of_getElem? (i := 120) rfl)) rfl
theorem g_3_121 : (Jvm.Cond.code ({ cls := "BundleHouse", name := "isShift", desc := "(I)Z" } : Jvm.MethodName) prog_1_method_26_code (1 : Nat) (Option.some Jvm.ClassFile.FieldType.boolean)) ∈ GT := gt_of (ts_3 (List.mem_of_getElem? (i := 121) rfl)) rfl
theorem g_3_122 : (Jvm.Cond.methodLink "BundleHouse" (127 : Nat) ({ cls := "BundleHouse$Program", name := "addPlain", desc := "(IIIIII)V" } : Jvm.MethodName)) ∈ GT := gt_of (ts_3 (List.mem_of_getElem? (i := 122) rfl)) rfl
theorem g_3_123 : (Jvm.Cond.instanceMethod ({ cls := "BundleHouse$Program", name := "addPlain", desc := "(IIIIII)V" } : Jvm.MethodName)) ∈ GT := gt_of (ts_3 (List.mem_of_getElem? (i := 123) rfl)) rfl
theorem g_3_124 : (Jvm.Cond.selects "BundleHouse$Program" ({ cls := "BundleHouse$Program", name := "addPlain", desc := "(IIIIII)V" } : Jvm.MethodName) ({ cls := "BundleHouse$Program", name := "addPlain", desc := "(IIIIII)V" } : Jvm.MethodName)) ∈ GT := gt_of (ts_3 (List.mem_of_getElem? (i := 124) rfl)) rfl
theorem g_3_125 : (Jvm.Cond.code ({ cls := "BundleHouse$Program", name := "addPlain", desc := "(IIIIII)V" } : Jvm.MethodName) prog_8_method_3_code (7 : Nat) (Option.none : Option Jvm.ClassFile.FieldType)) ∈ GT := gt_of (ts_3 (List.mem_of_getElem? (i := 125) rfl)) rfl
theorem g_3_126 : (Jvm.Cond.methodLink "BundleHouse$Program" (52 : Nat) ({ cls := "BundleHouse$Program", name := "isFull", desc := "()Z" } : Jvm.MethodName)) ∈ GT := gt_of (ts_3 (List.mem_of_getElem? (i := 126) rfl)) rfl
theorem g_3_128 : (Jvm.Cond.instanceMethod ({ cls := "BundleHouse", name := "flow", desc := "(III)I" } : Jvm.MethodName)) ∈ GT := gt_of (ts_3 (List.mem_of_getElem? (i := 128) rfl)) rfl
theorem g_3_129 : (Jvm.Cond.selects "BundleHouse" ({ cls := "BundleHouse", name := "flow", desc := "(III)I" } : Jvm.MethodName) ({ cls := "BundleHouse", name := "flow", desc := "(III)I" } : Jvm.MethodName)) ∈ GT := gt_of (ts_3 (List.mem_of_getElem? (i := 129) rfl)) rfl
theorem g_3_130 : (Jvm.Cond.code ({ cls := "BundleHouse", name := "flow", desc := "(III)I" } : Jvm.MethodName) prog_1_method_7_code (4 : Nat) (Option.some Jvm.ClassFile.FieldType.int)) ∈ GT := gt_of (ts_3 (List.mem_of_getElem? (i := 130) rfl)) rfl
theorem g_3_131 : (Jvm.Cond.methodLink "BundleHouse" (132 : Nat) ({ cls := "BundleHouse", name := "isFlow", desc := "(III)Z" } : Jvm.MethodName)) ∈ GT := gt_of (ts_3 (List.mem_of_getElem? (i := 131) rfl)) rfl
theorem g_3_132 : (Jvm.Cond.static ({ cls := "BundleHouse", name := "isFlow", desc := "(III)Z" } : Jvm.MethodName)) ∈ GT := gt_of (ts_3 (List.mem_of_getElem? (i := 132) rfl)) rfl
theorem g_3_133 : (Jvm.Cond.code ({ cls := "BundleHouse", name := "isFlow", desc := "(III)Z" } : Jvm.MethodName) prog_1_method_22_code (3 : Nat) (Option.some Jvm.ClassFile.FieldType.boolean)) ∈ GT := gt_of (ts_3 (List.mem_of_getElem? (i := 133) rfl)) rfl
theorem g_3_134 : (Jvm.Cond.methodLink "BundleHouse" (252 : Nat) ({ cls := "BundleHouse", name := "isLabel", desc := "(I)Z" } : Jvm.MethodName)) ∈ GT := gt_of (ts_3 (List.mem_of_getElem? (i := 134) rfl)) rfl
theorem g_3_135 : (Jvm.Cond.static ({ cls := "BundleHouse", name := "isLabel", desc := "(I)Z" } : Jvm.MethodName)) ∈ GT := gt_of (ts_3 (List.mem_of_getElem? (i := 135) rfl)) rfl
theorem g_3_136 : (Jvm.Cond.code ({ cls := "BundleHouse", name := "isLabel", desc := "(I)Z" } : Jvm.MethodName) prog_1_method_24_code (1 : Nat) (Option.some Jvm.ClassFile.FieldType.boolean)) ∈ GT := gt_of (ts_3 (List.mem_of_getElem? (i := 136) rfl)) rfl
theorem g_3_137 : (Jvm.Cond.methodLink "BundleHouse" (255 : Nat) ({ cls := "BundleHouse", name := "isCondition", desc := "(I)Z" } : Jvm.MethodName)) ∈ GT := gt_of (ts_3 (List.mem_of_getElem? (i := 137) rfl)) rfl
theorem g_3_138 : (Jvm.Cond.methodLink "BundleHouse" (136 : Nat) ({ cls := "BundleHouse$Program", name := "addFlow", desc := "(III)V" } : Jvm.MethodName)) ∈ GT := gt_of (ts_3 (List.mem_of_getElem? (i := 138) rfl)) rfl
theorem g_3_139 : (Jvm.Cond.instanceMethod ({ cls := "BundleHouse$Program", name := "addFlow", desc := "(III)V" } : Jvm.MethodName)) ∈ GT := gt_of (ts_3 (List.mem_of_getElem? (i := 139) rfl)) rfl
theorem g_3_14 : (Jvm.Cond.instanceMethod ({ cls := "BundleHouse$Reader", name := "expectBranch", desc := "(II)V" } : Jvm.MethodName)) ∈ GT := gt_of (ts_3 (List.mem_of_getElem? (i := 14) rfl)) rfl
theorem g_3_140 : (Jvm.Cond.selects "BundleHouse$Program" ({ cls := "BundleHouse$Program", name := "addFlow", desc := "(III)V" } : Jvm.MethodName) ({ cls := "BundleHouse$Program", name := "addFlow", desc := "(III)V" } : Jvm.MethodName)) ∈ GT := gt_of (ts_3 (List.mem_of_getElem? (i := 140) rfl)) rfl
theorem g_3_141 : (Jvm.Cond.code ({ cls := "BundleHouse$Program", name := "addFlow", desc := "(III)V" } : Jvm.MethodName) prog_8_method_4_code (4 : Nat) (Option.none : Option Jvm.ClassFile.FieldType)) ∈ GT := gt_of (ts_3 (List.mem_of_getElem? (i := 141) rfl)) rfl
theorem g_3_143 : (Jvm.Cond.instanceMethod ({ cls := "BundleHouse", name := "clear", desc := "()I" } : Jvm.MethodName)) ∈ GT := gt_of (ts_3 (List.mem_of_getElem? (i := 143) rfl)) rfl
theorem g_3_144 : (Jvm.Cond.selects "BundleHouse" ({ cls := "BundleHouse", name := "clear", desc := "()I" } : Jvm.MethodName) ({ cls := "BundleHouse", name := "clear", desc := "()I" } : Jvm.MethodName)) ∈ GT := gt_of (ts_3 (List.mem_of_getElem? (i := 144) rfl)) rfl
theorem g_3_145 : (Jvm.Cond.code ({ cls := "BundleHouse", name := "clear", desc := "()I" } : Jvm.MethodName) prog_1_method_8_code (2 : Nat) (Option.some Jvm.ClassFile.FieldType.int)) ∈ GT := gt_of (ts_3 (List.mem_of_getElem? (i := 145) rfl)) rfl
theorem g_3_147 : (Jvm.Cond.instanceMethod ({ cls := "BundleHouse", name := "build", desc := "()I" } : Jvm.MethodName)) ∈ GT := gt_of (ts_3 (List.mem_of_getElem? (i := 147) rfl)) rfl
theorem g_3_148 : (Jvm.Cond.selects "BundleHouse" ({ cls := "BundleHouse", name := "build", desc := "()I" } : Jvm.MethodName) ({ cls := "BundleHouse", name := "build", desc := "()I" } : Jvm.MethodName)) ∈ GT := gt_of (ts_3 (List.mem_of_getElem? (i := 148) rfl)) rfl
theorem g_3_149 : (Jvm.Cond.code ({ cls := "BundleHouse", name := "build", desc := "()I" } : Jvm.MethodName) prog_1_method_9_code (1 : Nat) (Option.some Jvm.ClassFile.FieldType.int)) ∈ GT := gt_of (ts_3 (List.mem_of_getElem? (i := 149) rfl)) rfl
theorem g_3_15 : (Jvm.Cond.code ({ cls := "BundleHouse$Reader", name := "expectBranch", desc := "(II)V" } : Jvm.MethodName) prog_9_method_7_code (3 : Nat) (Option.none : Option Jvm.ClassFile.FieldType)) ∈ GT := gt_of (ts_3 (List.mem_of_getElem? (i := 15) rfl)) rfl
theorem g_3_150 : (Jvm.Cond.methodLink "BundleHouse" (140 : Nat) ({ cls := "BundleHouse$Builder", name := "findFault", desc := "()I" } : Jvm.MethodName)) ∈ GT := gt_of (ts_3 (List.mem_of_getElem? (i := 150) rfl)) rfl
theorem g_3_151 : (Jvm.Cond.instanceMethod ({ cls := "BundleHouse$Builder", name := "findFault", desc := "()I" } : Jvm.MethodName)) ∈ GT := gt_of (ts_3 (List.mem_of_getElem? (i := 151) rfl)) rfl
theorem g_3_152 : (Jvm.Cond.selects "BundleHouse$Builder" ({ cls := "BundleHouse$Builder", name := "findFault", desc := "()I" } : Jvm.MethodName) ({ cls := "BundleHouse$Builder", name := "findFault", desc := "()I" } : Jvm.MethodName)) ∈ GT := gt_of (ts_3 (List.mem_of_getElem? (i := 152) rfl)) rfl
theorem g_3_153 : (Jvm.Cond.code ({ cls := "BundleHouse$Builder", name := "findFault", desc := "()I" } : Jvm.MethodName) prog_2_method_2_code (3 : Nat) (Option.some Jvm.ClassFile.FieldType.int)) ∈ GT := gt_of (ts_3 (List.mem_of_getElem? (i := 153) rfl)) rfl
theorem g_3_154 : (Jvm.Cond.methodLink "BundleHouse$Builder" (41 : Nat) ({ cls := "BundleHouse$Program", name := "findLabels", desc := "()V" } : Jvm.MethodName)) ∈ GT := gt_of (ts_3 (List.mem_of_getElem? (i := 154) rfl)) rfl
theorem g_3_155 : (Jvm.Cond.instanceMethod ({ cls := "BundleHouse$Program", name := "findLabels", desc := "()V" } : Jvm.MethodName)) ∈ GT := gt_of (ts_3 (List.mem_of_getElem? (i := 155) rfl)) rfl
theorem g_3_156 : (Jvm.Cond.selects "BundleHouse$Program" ({ cls := "BundleHouse$Program", name := "findLabels", desc := "()V" } : Jvm.MethodName) ({ cls := "BundleHouse$Program", name := "findLabels", desc := "()V" } : Jvm.MethodName)) ∈ GT := gt_of (ts_3 (List.mem_of_getElem? (i := 156) rfl)) rfl
theorem g_3_157 : (Jvm.Cond.code ({ cls := "BundleHouse$Program", name := "findLabels", desc := "()V" } : Jvm.MethodName) prog_8_method_12_code (2 : Nat) (Option.none : Option Jvm.ClassFile.FieldType)) ∈ GT := gt_of (ts_3 (List.mem_of_getElem? (i := 157) rfl)) rfl
theorem g_3_158 : (Jvm.Cond.methodLink "BundleHouse$Program" (65 : Nat) ({ cls := "BundleHouse$Program", name := "hasItem", desc := "(I)Z" } : Jvm.MethodName)) ∈ GT := gt_of (ts_3 (List.mem_of_getElem? (i := 158) rfl)) rfl
theorem g_3_159 : (Jvm.Cond.instanceMethod ({ cls := "BundleHouse$Program", name := "hasItem", desc := "(I)Z" } : Jvm.MethodName)) ∈ GT := gt_of (ts_3 (List.mem_of_getElem? (i := 159) rfl)) rfl
theorem g_3_160 : (Jvm.Cond.selects "BundleHouse$Program" ({ cls := "BundleHouse$Program", name := "hasItem", desc := "(I)Z" } : Jvm.MethodName) ({ cls := "BundleHouse$Program", name := "hasItem", desc := "(I)Z" } : Jvm.MethodName)) ∈ GT := gt_of (ts_3 (List.mem_of_getElem? (i := 160) rfl)) rfl
theorem g_3_161 : (Jvm.Cond.code ({ cls := "BundleHouse$Program", name := "hasItem", desc := "(I)Z" } : Jvm.MethodName) prog_8_method_6_code (2 : Nat) (Option.some Jvm.ClassFile.FieldType.boolean)) ∈ GT := gt_of (ts_3 (List.mem_of_getElem? (i := 161) rfl)) rfl
theorem g_3_163 : (Jvm.Cond.methodLink "BundleHouse$Builder" (49 : Nat) ({ cls := "BundleHouse$Builder", name := "faultOf", desc := "(I)I" } : Jvm.MethodName)) ∈ GT := gt_of (ts_3 (List.mem_of_getElem? (i := 163) rfl)) rfl
theorem g_3_165 : (Jvm.Cond.instanceMethod ({ cls := "BundleHouse$Builder", name := "faultOf", desc := "(I)I" } : Jvm.MethodName)) ∈ GT := gt_of (ts_3 (List.mem_of_getElem? (i := 165) rfl)) rfl
theorem g_3_166 : (Jvm.Cond.code ({ cls := "BundleHouse$Builder", name := "faultOf", desc := "(I)I" } : Jvm.MethodName) prog_2_method_3_code (3 : Nat) (Option.some Jvm.ClassFile.FieldType.int)) ∈ GT := gt_of (ts_3 (List.mem_of_getElem? (i := 166) rfl)) rfl
theorem g_3_167 : (Jvm.Cond.methodLink "BundleHouse$Builder" (67 : Nat) ({ cls := "BundleHouse$Program", name := "hasItem", desc := "(I)Z" } : Jvm.MethodName)) ∈ GT := gt_of (ts_3 (List.mem_of_getElem? (i := 167) rfl)) rfl
theorem g_3_168 : (Jvm.Cond.methodLink "BundleHouse$Builder" (74 : Nat) ({ cls := "BundleHouse$Program", name := "labelItem", desc := "(I)I" } : Jvm.MethodName)) ∈ GT := gt_of (ts_3 (List.mem_of_getElem? (i := 168) rfl)) rfl
theorem g_3_169 : (Jvm.Cond.instanceMethod ({ cls := "BundleHouse$Program", name := "labelItem", desc := "(I)I" } : Jvm.MethodName)) ∈ GT := gt_of (ts_3 (List.mem_of_getElem? (i := 169) rfl)) rfl
theorem g_3_17 : (Jvm.Cond.static ({ cls := "BundleHouse", name := "isCondition", desc := "(I)Z" } : Jvm.MethodName)) ∈ GT := gt_of (ts_3 (List.mem_of_getElem? (i := 17) rfl)) rfl
theorem g_3_170 : (Jvm.Cond.selects "BundleHouse$Program" ({ cls := "BundleHouse$Program", name := "labelItem", desc := "(I)I" } : Jvm.MethodName) ({ cls := "BundleHouse$Program", name := "labelItem", desc := "(I)I" } : Jvm.MethodName)) ∈ GT := gt_of (ts_3 (List.mem_of_getElem? (i := 170) rfl)) rfl
theorem g_3_171 : (Jvm.Cond.code ({ cls := "BundleHouse$Program", name := "labelItem", desc := "(I)I" } : Jvm.MethodName) prog_8_method_9_code (2 : Nat) (Option.some Jvm.ClassFile.FieldType.int)) ∈ GT := gt_of (ts_3 (List.mem_of_getElem? (i := 171) rfl)) rfl
theorem g_3_172 : (Jvm.Cond.methodLink "BundleHouse$Builder" (80 : Nat) ({ cls := "BundleHouse$Program", name := "isMarked", desc := "(I)Z" } : Jvm.MethodName)) ∈ GT := gt_of (ts_3 (List.mem_of_getElem? (i := 172) rfl)) rfl
theorem g_3_173 : (Jvm.Cond.instanceMethod ({ cls := "BundleHouse$Program", name := "isMarked", desc := "(I)Z" } : Jvm.MethodName)) ∈ GT := gt_of (ts_3 (List.mem_of_getElem? (i := 173) rfl)) rfl
theorem g_3_174 : (Jvm.Cond.selects "BundleHouse$Program" ({ cls := "BundleHouse$Program", name := "isMarked", desc := "(I)Z" } : Jvm.MethodName) ({ cls := "BundleHouse$Program", name := "isMarked", desc := "(I)Z" } : Jvm.MethodName)) ∈ GT := gt_of (ts_3 (List.mem_of_getElem? (i := 174) rfl)) rfl
theorem g_3_175 : (Jvm.Cond.code ({ cls := "BundleHouse$Program", name := "isMarked", desc := "(I)Z" } : Jvm.MethodName) prog_8_method_10_code (2 : Nat) (Option.some Jvm.ClassFile.FieldType.boolean)) ∈ GT := gt_of (ts_3 (List.mem_of_getElem? (i := 175) rfl)) rfl
theorem g_3_176 : (Jvm.Cond.methodLink "BundleHouse$Builder" (53 : Nat) ({ cls := "BundleHouse$Builder", name := "measure", desc := "()V" } : Jvm.MethodName)) ∈ GT := gt_of (ts_3 (List.mem_of_getElem? (i := 176) rfl)) rfl
theorem g_3_178 : (Jvm.Cond.instanceMethod ({ cls := "BundleHouse$Builder", name := "measure", desc := "()V" } : Jvm.MethodName)) ∈ GT := gt_of (ts_3 (List.mem_of_getElem? (i := 178) rfl)) rfl
theorem g_3_179 : (Jvm.Cond.code ({ cls := "BundleHouse$Builder", name := "measure", desc := "()V" } : Jvm.MethodName) prog_2_method_4_code (2 : Nat) (Option.none : Option Jvm.ClassFile.FieldType)) ∈ GT := gt_of (ts_3 (List.mem_of_getElem? (i := 179) rfl)) rfl
theorem g_3_18 : (Jvm.Cond.code ({ cls := "BundleHouse", name := "isCondition", desc := "(I)Z" } : Jvm.MethodName) prog_1_method_25_code (1 : Nat) (Option.some Jvm.ClassFile.FieldType.boolean)) ∈ GT := gt_of (ts_3 (List.mem_of_getElem? (i := 18) rfl)) rfl
theorem g_3_180 : (Jvm.Cond.methodLink "BundleHouse$Builder" (83 : Nat) ({ cls := "BundleHouse$Program", name := "loadItem", desc := "(ILBundleHouse$Instruction;)V" } : Jvm.MethodName)) ∈ GT := gt_of (ts_3 (List.mem_of_getElem? (i := 180) rfl)) rfl
theorem g_3_181 : (Jvm.Cond.instanceMethod ({ cls := "BundleHouse$Program", name := "loadItem", desc := "(ILBundleHouse$Instruction;)V" } : Jvm.MethodName)) ∈ GT := gt_of (ts_3 (List.mem_of_getElem? (i := 181) rfl)) rfl
theorem g_3_182 : (Jvm.Cond.selects "BundleHouse$Program" ({ cls := "BundleHouse$Program", name := "loadItem", desc := "(ILBundleHouse$Instruction;)V" } : Jvm.MethodName) ({ cls := "BundleHouse$Program", name := "loadItem", desc := "(ILBundleHouse$Instruction;)V" } : Jvm.MethodName)) ∈ GT := gt_of (ts_3 (List.mem_of_getElem? (i := 182) rfl)) rfl
theorem g_3_183 : (Jvm.Cond.code ({ cls := "BundleHouse$Program", name := "loadItem", desc := "(ILBundleHouse$Instruction;)V" } : Jvm.MethodName) prog_8_method_7_code (3 : Nat) (Option.none : Option Jvm.ClassFile.FieldType)) ∈ GT := gt_of (ts_3 (List.mem_of_getElem? (i := 183) rfl)) rfl
theorem g_3_184 : (Jvm.Cond.methodLink "BundleHouse$Program" (69 : Nat) ({ cls := "BundleHouse$Instruction", name := "fill", desc := "(IIIIII)V" } : Jvm.MethodName)) ∈ GT := gt_of (ts_3 (List.mem_of_getElem? (i := 184) rfl)) rfl
theorem g_3_185 : (Jvm.Cond.methodLink "BundleHouse$Builder" (87 : Nat) ({ cls := "BundleHouse$Piece", name := "become", desc := "(LBundleHouse$Instruction;)V" } : Jvm.MethodName)) ∈ GT := gt_of (ts_3 (List.mem_of_getElem? (i := 185) rfl)) rfl
theorem g_3_186 : (Jvm.Cond.instanceMethod ({ cls := "BundleHouse$Piece", name := "become", desc := "(LBundleHouse$Instruction;)V" } : Jvm.MethodName)) ∈ GT := gt_of (ts_3 (List.mem_of_getElem? (i := 186) rfl)) rfl
theorem g_3_187 : (Jvm.Cond.selects "BundleHouse$Piece" ({ cls := "BundleHouse$Piece", name := "become", desc := "(LBundleHouse$Instruction;)V" } : Jvm.MethodName) ({ cls := "BundleHouse$Piece", name := "become", desc := "(LBundleHouse$Instruction;)V" } : Jvm.MethodName)) ∈ GT := gt_of (ts_3 (List.mem_of_getElem? (i := 187) rfl)) rfl
theorem g_3_188 : (Jvm.Cond.code ({ cls := "BundleHouse$Piece", name := "become", desc := "(LBundleHouse$Instruction;)V" } : Jvm.MethodName) prog_6_method_4_code (2 : Nat) (Option.none : Option Jvm.ClassFile.FieldType)) ∈ GT := gt_of (ts_3 (List.mem_of_getElem? (i := 188) rfl)) rfl
theorem g_3_189 : (Jvm.Cond.methodLink "BundleHouse$Piece" (23 : Nat) ({ cls := "BundleHouse$Piece", name := "putLead", desc := "(LBundleHouse$Instruction;)V" } : Jvm.MethodName)) ∈ GT := gt_of (ts_3 (List.mem_of_getElem? (i := 189) rfl)) rfl
theorem g_3_19 : (Jvm.Cond.methodLink "BundleHouse$Reader" (95 : Nat) ({ cls := "BundleHouse$Reader", name := "expect", desc := "(IIII)V" } : Jvm.MethodName)) ∈ GT := gt_of (ts_3 (List.mem_of_getElem? (i := 19) rfl)) rfl
theorem g_3_191 : (Jvm.Cond.instanceMethod ({ cls := "BundleHouse$Piece", name := "putLead", desc := "(LBundleHouse$Instruction;)V" } : Jvm.MethodName)) ∈ GT := gt_of (ts_3 (List.mem_of_getElem? (i := 191) rfl)) rfl
theorem g_3_192 : (Jvm.Cond.code ({ cls := "BundleHouse$Piece", name := "putLead", desc := "(LBundleHouse$Instruction;)V" } : Jvm.MethodName) prog_6_method_10_code (2 : Nat) (Option.none : Option Jvm.ClassFile.FieldType)) ∈ GT := gt_of (ts_3 (List.mem_of_getElem? (i := 192) rfl)) rfl
theorem g_3_193 : (Jvm.Cond.methodLink "BundleHouse$Piece" (45 : Nat) ({ cls := "BundleHouse$Piece", name := "putMovLead", desc := "(LBundleHouse$Instruction;)V" } : Jvm.MethodName)) ∈ GT := gt_of (ts_3 (List.mem_of_getElem? (i := 193) rfl)) rfl
theorem g_3_195 : (Jvm.Cond.instanceMethod ({ cls := "BundleHouse$Piece", name := "putMovLead", desc := "(LBundleHouse$Instruction;)V" } : Jvm.MethodName)) ∈ GT := gt_of (ts_3 (List.mem_of_getElem? (i := 195) rfl)) rfl
theorem g_3_196 : (Jvm.Cond.code ({ cls := "BundleHouse$Piece", name := "putMovLead", desc := "(LBundleHouse$Instruction;)V" } : Jvm.MethodName) prog_6_method_12_code (2 : Nat) (Option.none : Option Jvm.ClassFile.FieldType)) ∈ GT := gt_of (ts_3 (List.mem_of_getElem? (i := 196) rfl)) rfl
theorem g_3_197 : (Jvm.Cond.methodLink "BundleHouse$Piece" (19 : Nat) ({ cls := "BundleHouse$Piece", name := "put", desc := "(I)V" } : Jvm.MethodName)) ∈ GT := gt_of (ts_3 (List.mem_of_getElem? (i := 197) rfl)) rfl
theorem g_3_198 : (Jvm.Cond.instanceMethod ({ cls := "BundleHouse$Piece", name := "put", desc := "(I)V" } : Jvm.MethodName)) ∈ GT := gt_of (ts_3 (List.mem_of_getElem? (i := 198) rfl)) rfl
theorem g_3_199 : (Jvm.Cond.selects "BundleHouse$Piece" ({ cls := "BundleHouse$Piece", name := "put", desc := "(I)V" } : Jvm.MethodName) ({ cls := "BundleHouse$Piece", name := "put", desc := "(I)V" } : Jvm.MethodName)) ∈ GT := gt_of (ts_3 (List.mem_of_getElem? (i := 199) rfl)) rfl
theorem g_3_2 : (Jvm.Cond.instanceMethod ({ cls := "BundleHouse$Reader", name := "take", desc := "()I" } : Jvm.MethodName)) ∈ GT := gt_of (ts_3 (List.mem_of_getElem? (i := 2) rfl)) rfl
theorem g_3_200 : (Jvm.Cond.code ({ cls := "BundleHouse$Piece", name := "put", desc := "(I)V" } : Jvm.MethodName) prog_6_method_2_code (2 : Nat) (Option.none : Option Jvm.ClassFile.FieldType)) ∈ GT := gt_of (ts_3 (List.mem_of_getElem? (i := 200) rfl)) rfl
theorem g_3_202 : (Jvm.Cond.static ({ cls := "BundleHouse", name := "isSmall", desc := "(I)Z" } : Jvm.MethodName)) ∈ GT := gt_of (ts_3 (List.mem_of_getElem? (i := 202) rfl)) rfl
theorem g_3_203 : (Jvm.Cond.code ({ cls := "BundleHouse", name := "isSmall", desc := "(I)Z" } : Jvm.MethodName) prog_1_method_31_code (1 : Nat) (Option.some Jvm.ClassFile.FieldType.boolean)) ∈ GT := gt_of (ts_3 (List.mem_of_getElem? (i := 203) rfl)) rfl
theorem g_3_204 : (Jvm.Cond.methodLink "BundleHouse$Piece" (61 : Nat) ({ cls := "BundleHouse$Piece", name := "putArithmeticLead", desc := "(LBundleHouse$Instruction;)V" } : Jvm.MethodName)) ∈ GT := gt_of (ts_3 (List.mem_of_getElem? (i := 204) rfl)) rfl
theorem g_3_206 : (Jvm.Cond.instanceMethod ({ cls := "BundleHouse$Piece", name := "putArithmeticLead", desc := "(LBundleHouse$Instruction;)V" } : Jvm.MethodName)) ∈ GT := gt_of (ts_3 (List.mem_of_getElem? (i := 206) rfl)) rfl
theorem g_3_207 : (Jvm.Cond.code ({ cls := "BundleHouse$Piece", name := "putArithmeticLead", desc := "(LBundleHouse$Instruction;)V" } : Jvm.MethodName) prog_6_method_11_code (2 : Nat) (Option.none : Option Jvm.ClassFile.FieldType)) ∈ GT := gt_of (ts_3 (List.mem_of_getElem? (i := 207) rfl)) rfl
theorem g_3_208 : (Jvm.Cond.methodLink "BundleHouse$Piece" (27 : Nat) ({ cls := "BundleHouse$Piece", name := "hasOperand", desc := "(LBundleHouse$Instruction;)Z" } : Jvm.MethodName)) ∈ GT := gt_of (ts_3 (List.mem_of_getElem? (i := 208) rfl)) rfl
theorem g_3_209 : (Jvm.Cond.static ({ cls := "BundleHouse$Piece", name := "hasOperand", desc := "(LBundleHouse$Instruction;)Z" } : Jvm.MethodName)) ∈ GT := gt_of (ts_3 (List.mem_of_getElem? (i := 209) rfl)) rfl
theorem g_3_21 : (Jvm.Cond.instanceMethod ({ cls := "BundleHouse$Reader", name := "expect", desc := "(IIII)V" } : Jvm.MethodName)) ∈ GT := gt_of (ts_3 (List.mem_of_getElem? (i := 21) rfl)) rfl
theorem g_3_210 : (Jvm.Cond.code ({ cls := "BundleHouse$Piece", name := "hasOperand", desc := "(LBundleHouse$Instruction;)Z" } : Jvm.MethodName) prog_6_method_13_code (1 : Nat) (Option.some Jvm.ClassFile.FieldType.boolean)) ∈ GT := gt_of (ts_3 (List.mem_of_getElem? (i := 210) rfl)) rfl
theorem g_3_211 : (Jvm.Cond.methodLink "BundleHouse$Piece" (31 : Nat) ({ cls := "BundleHouse$Piece", name := "putOperand", desc := "(LBundleHouse$Instruction;)V" } : Jvm.MethodName)) ∈ GT := gt_of (ts_3 (List.mem_of_getElem? (i := 211) rfl)) rfl
theorem g_3_213 : (Jvm.Cond.instanceMethod ({ cls := "BundleHouse$Piece", name := "putOperand", desc := "(LBundleHouse$Instruction;)V" } : Jvm.MethodName)) ∈ GT := gt_of (ts_3 (List.mem_of_getElem? (i := 213) rfl)) rfl
theorem g_3_214 : (Jvm.Cond.code ({ cls := "BundleHouse$Piece", name := "putOperand", desc := "(LBundleHouse$Instruction;)V" } : Jvm.MethodName) prog_6_method_15_code (7 : Nat) (Option.none : Option Jvm.ClassFile.FieldType)) ∈ GT := gt_of (ts_3 (List.mem_of_getElem? (i := 214) rfl)) rfl
theorem g_3_215 : (Jvm.Cond.methodLink "BundleHouse$Piece" (67 : Nat) ({ cls := "BundleHouse$Piece", name := "middleOf", desc := "(LBundleHouse$Instruction;)I" } : Jvm.MethodName)) ∈ GT := gt_of (ts_3 (List.mem_of_getElem? (i := 215) rfl)) rfl
theorem g_3_216 : (Jvm.Cond.static ({ cls := "BundleHouse$Piece", name := "middleOf", desc := "(LBundleHouse$Instruction;)I" } : Jvm.MethodName)) ∈ GT := gt_of (ts_3 (List.mem_of_getElem? (i := 216) rfl)) rfl
theorem g_3_217 : (Jvm.Cond.code ({ cls := "BundleHouse$Piece", name := "middleOf", desc := "(LBundleHouse$Instruction;)I" } : Jvm.MethodName) prog_6_method_14_code (1 : Nat) (Option.some Jvm.ClassFile.FieldType.int)) ∈ GT := gt_of (ts_3 (List.mem_of_getElem? (i := 217) rfl)) rfl
theorem g_3_219 : (Jvm.Cond.methodLink "BundleHouse$Piece" (74 : Nat) ({ cls := "BundleHouse$Instruction", name := "base", desc := "()I" } : Jvm.MethodName)) ∈ GT := gt_of (ts_3 (List.mem_of_getElem? (i := 219) rfl)) rfl
theorem g_3_22 : (Jvm.Cond.code ({ cls := "BundleHouse$Reader", name := "expect", desc := "(IIII)V" } : Jvm.MethodName) prog_9_method_5_code (5 : Nat) (Option.none : Option Jvm.ClassFile.FieldType)) ∈ GT := gt_of (ts_3 (List.mem_of_getElem? (i := 22) rfl)) rfl
theorem g_3_220 : (Jvm.Cond.instanceMethod ({ cls := "BundleHouse$Instruction", name := "base", desc := "()I" } : Jvm.MethodName)) ∈ GT := gt_of (ts_3 (List.mem_of_getElem? (i := 220) rfl)) rfl
theorem g_3_221 : (Jvm.Cond.selects "BundleHouse$Instruction" ({ cls := "BundleHouse$Instruction", name := "base", desc := "()I" } : Jvm.MethodName) ({ cls := "BundleHouse$Instruction", name := "base", desc := "()I" } : Jvm.MethodName)) ∈ GT := gt_of (ts_3 (List.mem_of_getElem? (i := 221) rfl)) rfl
theorem g_3_222 : (Jvm.Cond.code ({ cls := "BundleHouse$Instruction", name := "base", desc := "()I" } : Jvm.MethodName) prog_4_method_3_code (1 : Nat) (Option.some Jvm.ClassFile.FieldType.int)) ∈ GT := gt_of (ts_3 (List.mem_of_getElem? (i := 222) rfl)) rfl
theorem g_3_223 : (Jvm.Cond.methodLink "BundleHouse$Piece" (78 : Nat) ({ cls := "BundleHouse$Instruction", name := "index", desc := "()I" } : Jvm.MethodName)) ∈ GT := gt_of (ts_3 (List.mem_of_getElem? (i := 223) rfl)) rfl
theorem g_3_224 : (Jvm.Cond.instanceMethod ({ cls := "BundleHouse$Instruction", name := "index", desc := "()I" } : Jvm.MethodName)) ∈ GT := gt_of (ts_3 (List.mem_of_getElem? (i := 224) rfl)) rfl
theorem g_3_225 : (Jvm.Cond.selects "BundleHouse$Instruction" ({ cls := "BundleHouse$Instruction", name := "index", desc := "()I" } : Jvm.MethodName) ({ cls := "BundleHouse$Instruction", name := "index", desc := "()I" } : Jvm.MethodName)) ∈ GT := gt_of (ts_3 (List.mem_of_getElem? (i := 225) rfl)) rfl
theorem g_3_226 : (Jvm.Cond.code ({ cls := "BundleHouse$Instruction", name := "index", desc := "()I" } : Jvm.MethodName) prog_4_method_4_code (1 : Nat) (Option.some Jvm.ClassFile.FieldType.int)) ∈ GT := gt_of (ts_3 (List.mem_of_getElem? (i := 226) rfl)) rfl
theorem g_3_227 : (Jvm.Cond.methodLink "BundleHouse$Piece" (84 : Nat) ({ cls := "BundleHouse$Instruction", name := "scale", desc := "()I" } : Jvm.MethodName)) ∈ GT := gt_of (ts_3 (List.mem_of_getElem? (i := 227) rfl)) rfl
theorem g_3_228 : (Jvm.Cond.instanceMethod ({ cls := "BundleHouse$Instruction", name := "scale", desc := "()I" } : Jvm.MethodName)) ∈ GT := gt_of (ts_3 (List.mem_of_getElem? (i := 228) rfl)) rfl
theorem g_3_229 : (Jvm.Cond.selects "BundleHouse$Instruction" ({ cls := "BundleHouse$Instruction", name := "scale", desc := "()I" } : Jvm.MethodName) ({ cls := "BundleHouse$Instruction", name := "scale", desc := "()I" } : Jvm.MethodName)) ∈ GT := gt_of (ts_3 (List.mem_of_getElem? (i := 229) rfl)) rfl
theorem g_3_23 : (Jvm.Cond.methodLink "BundleHouse$Reader" (48 : Nat) ({ cls := "BundleHouse$Reader", name := "shape", desc := "(I)V" } : Jvm.MethodName)) ∈ GT := gt_of (ts_3 (List.mem_of_getElem? (i := 23) rfl)) rfl
theorem g_3_230 : (Jvm.Cond.code ({ cls := "BundleHouse$Instruction", name := "scale", desc := "()I" } : Jvm.MethodName) prog_4_method_5_code (1 : Nat) (Option.some Jvm.ClassFile.FieldType.int)) ∈ GT := gt_of (ts_3 (List.mem_of_getElem? (i := 230) rfl)) rfl
theorem g_3_231 : (Jvm.Cond.methodLink "BundleHouse$Piece" (37 : Nat) ({ cls := "BundleHouse$Piece", name := "putFour", desc := "(I)V" } : Jvm.MethodName)) ∈ GT := gt_of (ts_3 (List.mem_of_getElem? (i := 231) rfl)) rfl
theorem g_3_232 : (Jvm.Cond.instanceMethod ({ cls := "BundleHouse$Piece", name := "putFour", desc := "(I)V" } : Jvm.MethodName)) ∈ GT := gt_of (ts_3 (List.mem_of_getElem? (i := 232) rfl)) rfl
theorem g_3_233 : (Jvm.Cond.selects "BundleHouse$Piece" ({ cls := "BundleHouse$Piece", name := "putFour", desc := "(I)V" } : Jvm.MethodName) ({ cls := "BundleHouse$Piece", name := "putFour", desc := "(I)V" } : Jvm.MethodName)) ∈ GT := gt_of (ts_3 (List.mem_of_getElem? (i := 233) rfl)) rfl
theorem g_3_234 : (Jvm.Cond.code ({ cls := "BundleHouse$Piece", name := "putFour", desc := "(I)V" } : Jvm.MethodName) prog_6_method_3_code (2 : Nat) (Option.none : Option Jvm.ClassFile.FieldType)) ∈ GT := gt_of (ts_3 (List.mem_of_getElem? (i := 234) rfl)) rfl
theorem g_3_235 : (Jvm.Cond.methodLink "BundleHouse$Piece" (34 : Nat) ({ cls := "BundleHouse$Piece", name := "putValue", desc := "(LBundleHouse$Instruction;)V" } : Jvm.MethodName)) ∈ GT := gt_of (ts_3 (List.mem_of_getElem? (i := 235) rfl)) rfl
theorem g_3_237 : (Jvm.Cond.instanceMethod ({ cls := "BundleHouse$Piece", name := "putValue", desc := "(LBundleHouse$Instruction;)V" } : Jvm.MethodName)) ∈ GT := gt_of (ts_3 (List.mem_of_getElem? (i := 237) rfl)) rfl
theorem g_3_238 : (Jvm.Cond.code ({ cls := "BundleHouse$Piece", name := "putValue", desc := "(LBundleHouse$Instruction;)V" } : Jvm.MethodName) prog_6_method_16_code (2 : Nat) (Option.none : Option Jvm.ClassFile.FieldType)) ∈ GT := gt_of (ts_3 (List.mem_of_getElem? (i := 238) rfl)) rfl
theorem g_3_25 : (Jvm.Cond.instanceMethod ({ cls := "BundleHouse$Reader", name := "shape", desc := "(I)V" } : Jvm.MethodName)) ∈ GT := gt_of (ts_3 (List.mem_of_getElem? (i := 25) rfl)) rfl
theorem g_3_26 : (Jvm.Cond.code ({ cls := "BundleHouse$Reader", name := "shape", desc := "(I)V" } : Jvm.MethodName) prog_9_method_8_code (2 : Nat) (Option.none : Option Jvm.ClassFile.FieldType)) ∈ GT := gt_of (ts_3 (List.mem_of_getElem? (i := 26) rfl)) rfl
theorem g_3_27 : (Jvm.Cond.methodLink "BundleHouse$Reader" (99 : Nat) ({ cls := "BundleHouse$Reader", name := "shapeArithmetic", desc := "(I)V" } : Jvm.MethodName)) ∈ GT := gt_of (ts_3 (List.mem_of_getElem? (i := 27) rfl)) rfl
theorem g_3_29 : (Jvm.Cond.instanceMethod ({ cls := "BundleHouse$Reader", name := "shapeArithmetic", desc := "(I)V" } : Jvm.MethodName)) ∈ GT := gt_of (ts_3 (List.mem_of_getElem? (i := 29) rfl)) rfl
theorem g_3_3 : (Jvm.Cond.code ({ cls := "BundleHouse$Reader", name := "take", desc := "()I" } : Jvm.MethodName) prog_9_method_3_code (2 : Nat) (Option.some Jvm.ClassFile.FieldType.int)) ∈ GT := gt_of (ts_3 (List.mem_of_getElem? (i := 3) rfl)) rfl
theorem g_3_30 : (Jvm.Cond.code ({ cls := "BundleHouse$Reader", name := "shapeArithmetic", desc := "(I)V" } : Jvm.MethodName) prog_9_method_9_code (2 : Nat) (Option.none : Option Jvm.ClassFile.FieldType)) ∈ GT := gt_of (ts_3 (List.mem_of_getElem? (i := 30) rfl)) rfl
theorem g_3_31 : (Jvm.Cond.methodLink "BundleHouse$Reader" (106 : Nat) ({ cls := "BundleHouse$Reader", name := "shapeOther", desc := "(I)V" } : Jvm.MethodName)) ∈ GT := gt_of (ts_3 (List.mem_of_getElem? (i := 31) rfl)) rfl
theorem g_3_33 : (Jvm.Cond.instanceMethod ({ cls := "BundleHouse$Reader", name := "shapeOther", desc := "(I)V" } : Jvm.MethodName)) ∈ GT := gt_of (ts_3 (List.mem_of_getElem? (i := 33) rfl)) rfl
theorem g_3_34 : (Jvm.Cond.code ({ cls := "BundleHouse$Reader", name := "shapeOther", desc := "(I)V" } : Jvm.MethodName) prog_9_method_11_code (2 : Nat) (Option.none : Option Jvm.ClassFile.FieldType)) ∈ GT := gt_of (ts_3 (List.mem_of_getElem? (i := 34) rfl)) rfl
theorem g_3_35 : (Jvm.Cond.methodLink "BundleHouse$Reader" (51 : Nat) ({ cls := "BundleHouse$Reader", name := "takeOperand", desc := "()V" } : Jvm.MethodName)) ∈ GT := gt_of (ts_3 (List.mem_of_getElem? (i := 35) rfl)) rfl
theorem g_3_37 : (Jvm.Cond.instanceMethod ({ cls := "BundleHouse$Reader", name := "takeOperand", desc := "()V" } : Jvm.MethodName)) ∈ GT := gt_of (ts_3 (List.mem_of_getElem? (i := 37) rfl)) rfl
theorem g_3_38 : (Jvm.Cond.code ({ cls := "BundleHouse$Reader", name := "takeOperand", desc := "()V" } : Jvm.MethodName) prog_9_method_12_code (7 : Nat) (Option.none : Option Jvm.ClassFile.FieldType)) ∈ GT := gt_of (ts_3 (List.mem_of_getElem? (i := 38) rfl)) rfl
theorem g_3_39 : (Jvm.Cond.methodLink "BundleHouse$Reader" (54 : Nat) ({ cls := "BundleHouse$Reader", name := "giveForm", desc := "(I)V" } : Jvm.MethodName)) ∈ GT := gt_of (ts_3 (List.mem_of_getElem? (i := 39) rfl)) rfl
theorem g_3_4 : (Jvm.Cond.methodLink "BundleHouse$Reader" (44 : Nat) ({ cls := "BundleHouse$Reader", name := "shapeBehind15", desc := "(I)V" } : Jvm.MethodName)) ∈ GT := gt_of (ts_3 (List.mem_of_getElem? (i := 4) rfl)) rfl
theorem g_3_41 : (Jvm.Cond.instanceMethod ({ cls := "BundleHouse$Reader", name := "giveForm", desc := "(I)V" } : Jvm.MethodName)) ∈ GT := gt_of (ts_3 (List.mem_of_getElem? (i := 41) rfl)) rfl
theorem g_3_42 : (Jvm.Cond.code ({ cls := "BundleHouse$Reader", name := "giveForm", desc := "(I)V" } : Jvm.MethodName) prog_9_method_13_code (4 : Nat) (Option.none : Option Jvm.ClassFile.FieldType)) ∈ GT := gt_of (ts_3 (List.mem_of_getElem? (i := 42) rfl)) rfl
theorem g_3_43 : (Jvm.Cond.methodLink "BundleHouse$Reader" (125 : Nat) ({ cls := "BundleHouse$Reader", name := "groupOp", desc := "(I)I" } : Jvm.MethodName)) ∈ GT := gt_of (ts_3 (List.mem_of_getElem? (i := 43) rfl)) rfl
theorem g_3_45 : (Jvm.Cond.instanceMethod ({ cls := "BundleHouse$Reader", name := "groupOp", desc := "(I)I" } : Jvm.MethodName)) ∈ GT := gt_of (ts_3 (List.mem_of_getElem? (i := 45) rfl)) rfl
theorem g_3_46 : (Jvm.Cond.code ({ cls := "BundleHouse$Reader", name := "groupOp", desc := "(I)I" } : Jvm.MethodName) prog_9_method_14_code (2 : Nat) (Option.some Jvm.ClassFile.FieldType.int)) ∈ GT := gt_of (ts_3 (List.mem_of_getElem? (i := 46) rfl)) rfl
theorem g_3_47 : (Jvm.Cond.methodLink "BundleHouse$Reader" (60 : Nat) ({ cls := "BundleHouse$Reader", name := "takeNumber", desc := "(I)I" } : Jvm.MethodName)) ∈ GT := gt_of (ts_3 (List.mem_of_getElem? (i := 47) rfl)) rfl
theorem g_3_49 : (Jvm.Cond.instanceMethod ({ cls := "BundleHouse$Reader", name := "takeNumber", desc := "(I)I" } : Jvm.MethodName)) ∈ GT := gt_of (ts_3 (List.mem_of_getElem? (i := 49) rfl)) rfl
theorem g_3_50 : (Jvm.Cond.code ({ cls := "BundleHouse$Reader", name := "takeNumber", desc := "(I)I" } : Jvm.MethodName) prog_9_method_4_code (3 : Nat) (Option.some Jvm.ClassFile.FieldType.int)) ∈ GT := gt_of (ts_3 (List.mem_of_getElem? (i := 50) rfl)) rfl
theorem g_3_51 : (Jvm.Cond.methodLink "BundleHouse$Policy" (48 : Nat) ({ cls := "BundleHouse$Policy", name := "faultOfFound", desc := "(III)I" } : Jvm.MethodName)) ∈ GT := gt_of (ts_3 (List.mem_of_getElem? (i := 51) rfl)) rfl
theorem g_3_53 : (Jvm.Cond.instanceMethod ({ cls := "BundleHouse$Policy", name := "faultOfFound", desc := "(III)I" } : Jvm.MethodName)) ∈ GT := gt_of (ts_3 (List.mem_of_getElem? (i := 53) rfl)) rfl
theorem g_3_54 : (Jvm.Cond.code ({ cls := "BundleHouse$Policy", name := "faultOfFound", desc := "(III)I" } : Jvm.MethodName) prog_7_method_4_code (6 : Nat) (Option.some Jvm.ClassFile.FieldType.int)) ∈ GT := gt_of (ts_3 (List.mem_of_getElem? (i := 54) rfl)) rfl
theorem g_3_55 : (Jvm.Cond.methodLink "BundleHouse$Policy" (61 : Nat) ({ cls := "BundleHouse$Strip", name := "mark", desc := "(II)V" } : Jvm.MethodName)) ∈ GT := gt_of (ts_3 (List.mem_of_getElem? (i := 55) rfl)) rfl
theorem g_3_56 : (Jvm.Cond.instanceMethod ({ cls := "BundleHouse$Strip", name := "mark", desc := "(II)V" } : Jvm.MethodName)) ∈ GT := gt_of (ts_3 (List.mem_of_getElem? (i := 56) rfl)) rfl
theorem g_3_57 : (Jvm.Cond.selects "BundleHouse$Strip" ({ cls := "BundleHouse$Strip", name := "mark", desc := "(II)V" } : Jvm.MethodName) ({ cls := "BundleHouse$Strip", name := "mark", desc := "(II)V" } : Jvm.MethodName)) ∈ GT := gt_of (ts_3 (List.mem_of_getElem? (i := 57) rfl)) rfl
theorem g_3_58 : (Jvm.Cond.code ({ cls := "BundleHouse$Strip", name := "mark", desc := "(II)V" } : Jvm.MethodName) prog_11_method_7_code (3 : Nat) (Option.none : Option Jvm.ClassFile.FieldType)) ∈ GT := gt_of (ts_3 (List.mem_of_getElem? (i := 58) rfl)) rfl
theorem g_3_59 : (Jvm.Cond.methodLink "BundleHouse$Policy" (65 : Nat) ({ cls := "BundleHouse$Policy", name := "maskedRegister", desc := "(I)I" } : Jvm.MethodName)) ∈ GT := gt_of (ts_3 (List.mem_of_getElem? (i := 59) rfl)) rfl
theorem g_3_6 : (Jvm.Cond.instanceMethod ({ cls := "BundleHouse$Reader", name := "shapeBehind15", desc := "(I)V" } : Jvm.MethodName)) ∈ GT := gt_of (ts_3 (List.mem_of_getElem? (i := 6) rfl)) rfl
theorem g_3_61 : (Jvm.Cond.instanceMethod ({ cls := "BundleHouse$Policy", name := "maskedRegister", desc := "(I)I" } : Jvm.MethodName)) ∈ GT := gt_of (ts_3 (List.mem_of_getElem? (i := 61) rfl)) rfl
theorem g_3_62 : (Jvm.Cond.code ({ cls := "BundleHouse$Policy", name := "maskedRegister", desc := "(I)I" } : Jvm.MethodName) prog_7_method_5_code (4 : Nat) (Option.some Jvm.ClassFile.FieldType.int)) ∈ GT := gt_of (ts_3 (List.mem_of_getElem? (i := 62) rfl)) rfl
theorem g_3_63 : (Jvm.Cond.methodLink "BundleHouse$Policy" (74 : Nat) ({ cls := "BundleHouse$Strip", name := "byteAt", desc := "(I)I" } : Jvm.MethodName)) ∈ GT := gt_of (ts_3 (List.mem_of_getElem? (i := 63) rfl)) rfl
theorem g_3_64 : (Jvm.Cond.instanceMethod ({ cls := "BundleHouse$Strip", name := "byteAt", desc := "(I)I" } : Jvm.MethodName)) ∈ GT := gt_of (ts_3 (List.mem_of_getElem? (i := 64) rfl)) rfl
theorem g_3_65 : (Jvm.Cond.selects "BundleHouse$Strip" ({ cls := "BundleHouse$Strip", name := "byteAt", desc := "(I)I" } : Jvm.MethodName) ({ cls := "BundleHouse$Strip", name := "byteAt", desc := "(I)I" } : Jvm.MethodName)) ∈ GT := gt_of (ts_3 (List.mem_of_getElem? (i := 65) rfl)) rfl
theorem g_3_66 : (Jvm.Cond.code ({ cls := "BundleHouse$Strip", name := "byteAt", desc := "(I)I" } : Jvm.MethodName) prog_11_method_3_code (2 : Nat) (Option.some Jvm.ClassFile.FieldType.int)) ∈ GT := gt_of (ts_3 (List.mem_of_getElem? (i := 66) rfl)) rfl
theorem g_3_67 : (Jvm.Cond.methodLink "BundleHouse$Policy" (40 : Nat) ({ cls := "BundleHouse$Policy", name := "targetFault", desc := "()I" } : Jvm.MethodName)) ∈ GT := gt_of (ts_3 (List.mem_of_getElem? (i := 67) rfl)) rfl
theorem g_3_69 : (Jvm.Cond.instanceMethod ({ cls := "BundleHouse$Policy", name := "targetFault", desc := "()I" } : Jvm.MethodName)) ∈ GT := gt_of (ts_3 (List.mem_of_getElem? (i := 69) rfl)) rfl
theorem g_3_7 : (Jvm.Cond.code ({ cls := "BundleHouse$Reader", name := "shapeBehind15", desc := "(I)V" } : Jvm.MethodName) prog_9_method_10_code (2 : Nat) (Option.none : Option Jvm.ClassFile.FieldType)) ∈ GT := gt_of (ts_3 (List.mem_of_getElem? (i := 7) rfl)) rfl
theorem g_3_70 : (Jvm.Cond.code ({ cls := "BundleHouse$Policy", name := "targetFault", desc := "()I" } : Jvm.MethodName) prog_7_method_6_code (2 : Nat) (Option.some Jvm.ClassFile.FieldType.int)) ∈ GT := gt_of (ts_3 (List.mem_of_getElem? (i := 70) rfl)) rfl
theorem g_3_71 : (Jvm.Cond.methodLink "BundleHouse$Policy" (83 : Nat) ({ cls := "BundleHouse$Strip", name := "markAt", desc := "(I)I" } : Jvm.MethodName)) ∈ GT := gt_of (ts_3 (List.mem_of_getElem? (i := 71) rfl)) rfl
theorem g_3_72 : (Jvm.Cond.instanceMethod ({ cls := "BundleHouse$Strip", name := "markAt", desc := "(I)I" } : Jvm.MethodName)) ∈ GT := gt_of (ts_3 (List.mem_of_getElem? (i := 72) rfl)) rfl
theorem g_3_73 : (Jvm.Cond.selects "BundleHouse$Strip" ({ cls := "BundleHouse$Strip", name := "markAt", desc := "(I)I" } : Jvm.MethodName) ({ cls := "BundleHouse$Strip", name := "markAt", desc := "(I)I" } : Jvm.MethodName)) ∈ GT := gt_of (ts_3 (List.mem_of_getElem? (i := 73) rfl)) rfl
theorem g_3_74 : (Jvm.Cond.code ({ cls := "BundleHouse$Strip", name := "markAt", desc := "(I)I" } : Jvm.MethodName) prog_11_method_6_code (2 : Nat) (Option.some Jvm.ClassFile.FieldType.int)) ∈ GT := gt_of (ts_3 (List.mem_of_getElem? (i := 74) rfl)) rfl
theorem g_3_75 : (Jvm.Cond.methodLink "BundleHouse$Policy" (86 : Nat) ({ cls := "BundleHouse$Policy", name := "isAstray", desc := "(I)Z" } : Jvm.MethodName)) ∈ GT := gt_of (ts_3 (List.mem_of_getElem? (i := 75) rfl)) rfl
theorem g_3_77 : (Jvm.Cond.instanceMethod ({ cls := "BundleHouse$Policy", name := "isAstray", desc := "(I)Z" } : Jvm.MethodName)) ∈ GT := gt_of (ts_3 (List.mem_of_getElem? (i := 77) rfl)) rfl
theorem g_3_78 : (Jvm.Cond.code ({ cls := "BundleHouse$Policy", name := "isAstray", desc := "(I)Z" } : Jvm.MethodName) prog_7_method_7_code (4 : Nat) (Option.some Jvm.ClassFile.FieldType.boolean)) ∈ GT := gt_of (ts_3 (List.mem_of_getElem? (i := 78) rfl)) rfl
theorem g_3_8 : (Jvm.Cond.methodLink "BundleHouse$Reader" (109 : Nat) ({ cls := "BundleHouse$Reader", name := "expectOperand", desc := "(III)V" } : Jvm.MethodName)) ∈ GT := gt_of (ts_3 (List.mem_of_getElem? (i := 8) rfl)) rfl
theorem g_3_80 : (Jvm.Cond.static ({ cls := "BundleHouse", name := "isService", desc := "(I)Z" } : Jvm.MethodName)) ∈ GT := gt_of (ts_3 (List.mem_of_getElem? (i := 80) rfl)) rfl
theorem g_3_81 : (Jvm.Cond.code ({ cls := "BundleHouse", name := "isService", desc := "(I)Z" } : Jvm.MethodName) prog_1_method_30_code (1 : Nat) (Option.some Jvm.ClassFile.FieldType.boolean)) ∈ GT := gt_of (ts_3 (List.mem_of_getElem? (i := 81) rfl)) rfl
theorem g_3_82 : (Jvm.Cond.methodLink "BundleHouse" (109 : Nat) ({ cls := "BundleHouse$Strip", name := "copyFrom", desc := "(LBundleHouse$Strip;)V" } : Jvm.MethodName)) ∈ GT := gt_of (ts_3 (List.mem_of_getElem? (i := 82) rfl)) rfl
theorem g_3_83 : (Jvm.Cond.instanceMethod ({ cls := "BundleHouse$Strip", name := "copyFrom", desc := "(LBundleHouse$Strip;)V" } : Jvm.MethodName)) ∈ GT := gt_of (ts_3 (List.mem_of_getElem? (i := 83) rfl)) rfl
theorem g_3_84 : (Jvm.Cond.selects "BundleHouse$Strip" ({ cls := "BundleHouse$Strip", name := "copyFrom", desc := "(LBundleHouse$Strip;)V" } : Jvm.MethodName) ({ cls := "BundleHouse$Strip", name := "copyFrom", desc := "(LBundleHouse$Strip;)V" } : Jvm.MethodName)) ∈ GT := gt_of (ts_3 (List.mem_of_getElem? (i := 84) rfl)) rfl
theorem g_3_85 : (Jvm.Cond.code ({ cls := "BundleHouse$Strip", name := "copyFrom", desc := "(LBundleHouse$Strip;)V" } : Jvm.MethodName) prog_11_method_9_code (2 : Nat) (Option.none : Option Jvm.ClassFile.FieldType)) ∈ GT := gt_of (ts_3 (List.mem_of_getElem? (i := 85) rfl)) rfl
theorem g_3_86 : (Jvm.Cond.methodLink "BundleHouse$Strip" (35 : Nat) ({ cls := "java/lang/System", name := "arraycopy", desc := "(Ljava/lang/Object;ILjava/lang/Object;II)V" } : Jvm.MethodName)) ∈ GT := gt_of (ts_3 (List.mem_of_getElem? (i := 86) rfl)) rfl
theorem g_3_87 : (Jvm.Cond.static ({ cls := "java/lang/System", name := "arraycopy", desc := "(Ljava/lang/Object;ILjava/lang/Object;II)V" } : Jvm.MethodName)) ∈ GT := gt_of (ts_3 (List.mem_of_getElem? (i := 87) rfl)) rfl
theorem g_3_88 : (Jvm.Cond.native ({ cls := "java/lang/System", name := "arraycopy", desc := "(Ljava/lang/Object;ILjava/lang/Object;II)V" } : Jvm.MethodName)) ∈ GT := gt_of (ts_3 (List.mem_of_getElem? (i := 88) rfl)) rfl
theorem g_3_89 : (Jvm.Cond.methodLink "BundleHouse" (116 : Nat) ({ cls := "BundleHouse", name := "forgetRuns", desc := "()V" } : Jvm.MethodName)) ∈ GT := gt_of (ts_3 (List.mem_of_getElem? (i := 89) rfl)) rfl
theorem g_3_91 : (Jvm.Cond.instanceMethod ({ cls := "BundleHouse", name := "forgetRuns", desc := "()V" } : Jvm.MethodName)) ∈ GT := gt_of (ts_3 (List.mem_of_getElem? (i := 91) rfl)) rfl
theorem g_3_92 : (Jvm.Cond.code ({ cls := "BundleHouse", name := "forgetRuns", desc := "()V" } : Jvm.MethodName) prog_1_method_20_code (1 : Nat) (Option.none : Option Jvm.ClassFile.FieldType)) ∈ GT := gt_of (ts_3 (List.mem_of_getElem? (i := 92) rfl)) rfl
theorem g_3_94 : (Jvm.Cond.instanceMethod ({ cls := "BundleHouse", name := "fault", desc := "(I)I" } : Jvm.MethodName)) ∈ GT := gt_of (ts_3 (List.mem_of_getElem? (i := 94) rfl)) rfl
theorem g_3_95 : (Jvm.Cond.selects "BundleHouse" ({ cls := "BundleHouse", name := "fault", desc := "(I)I" } : Jvm.MethodName) ({ cls := "BundleHouse", name := "fault", desc := "(I)I" } : Jvm.MethodName)) ∈ GT := gt_of (ts_3 (List.mem_of_getElem? (i := 95) rfl)) rfl
theorem g_3_96 : (Jvm.Cond.code ({ cls := "BundleHouse", name := "fault", desc := "(I)I" } : Jvm.MethodName) prog_1_method_5_code (2 : Nat) (Option.some Jvm.ClassFile.FieldType.int)) ∈ GT := gt_of (ts_3 (List.mem_of_getElem? (i := 96) rfl)) rfl
theorem g_3_98 : (Jvm.Cond.instanceMethod ({ cls := "BundleHouse", name := "plain", desc := "(IIIIII)I" } : Jvm.MethodName)) ∈ GT := gt_of (ts_3 (List.mem_of_getElem? (i := 98) rfl)) rfl
theorem g_3_99 : (Jvm.Cond.selects "BundleHouse" ({ cls := "BundleHouse", name := "plain", desc := "(IIIIII)I" } : Jvm.MethodName) ({ cls := "BundleHouse", name := "plain", desc := "(IIIIII)I" } : Jvm.MethodName)) ∈ GT := gt_of (ts_3 (List.mem_of_getElem? (i := 99) rfl)) rfl
theorem g_4_0 : (Jvm.Cond.methodLink "BundleHouse$Builder" (56 : Nat) ({ cls := "BundleHouse$Builder", name := "layAll", desc := "()V" } : Jvm.MethodName)) ∈ GT := gt_of (ts_4 (List.mem_of_getElem? (i := 0) rfl)) rfl
theorem g_4_10 : (Jvm.Cond.selects "BundleHouse$Program" ({ cls := "BundleHouse$Program", name := "pushes", desc := "(I)Z" } : Jvm.MethodName) ({ cls := "BundleHouse$Program", name := "pushes", desc := "(I)Z" } : Jvm.MethodName)) ∈ GT := gt_of (ts_4 (List.mem_of_getElem? (i := 10) rfl)) rfl
theorem g_4_100 : (Jvm.Cond.selects "BundleHouse$Strip" ({ cls := "BundleHouse$Strip", name := "putPiece", desc := "(ILBundleHouse$Piece;)V" } : Jvm.MethodName) ({ cls := "BundleHouse$Strip", name := "putPiece", desc := "(ILBundleHouse$Piece;)V" } : Jvm.MethodName)) ∈ GT := gt_of (ts_4 (List.mem_of_getElem? (i := 100) rfl)) rfl
theorem g_4_101 : (Jvm.Cond.code ({ cls := "BundleHouse$Strip", name := "putPiece", desc := "(ILBundleHouse$Piece;)V" } : Jvm.MethodName) prog_11_method_4_code (4 : Nat) (Option.none : Option Jvm.ClassFile.FieldType)) ∈ GT := gt_of (ts_4 (List.mem_of_getElem? (i := 101) rfl)) rfl
theorem g_4_102 : (Jvm.Cond.methodLink "BundleHouse" (147 : Nat) ({ cls := "BundleHouse$Program", name := "copyFrom", desc := "(LBundleHouse$Program;)V" } : Jvm.MethodName)) ∈ GT := gt_of (ts_4 (List.mem_of_getElem? (i := 102) rfl)) rfl
theorem g_4_103 : (Jvm.Cond.instanceMethod ({ cls := "BundleHouse$Program", name := "copyFrom", desc := "(LBundleHouse$Program;)V" } : Jvm.MethodName)) ∈ GT := gt_of (ts_4 (List.mem_of_getElem? (i := 103) rfl)) rfl
theorem g_4_104 : (Jvm.Cond.selects "BundleHouse$Program" ({ cls := "BundleHouse$Program", name := "copyFrom", desc := "(LBundleHouse$Program;)V" } : Jvm.MethodName) ({ cls := "BundleHouse$Program", name := "copyFrom", desc := "(LBundleHouse$Program;)V" } : Jvm.MethodName)) ∈ GT := gt_of (ts_4 (List.mem_of_getElem? (i := 104) rfl)) rfl
theorem g_4_105 : (Jvm.Cond.code ({ cls := "BundleHouse$Program", name := "copyFrom", desc := "(LBundleHouse$Program;)V" } : Jvm.MethodName) prog_8_method_5_code (2 : Nat) (Option.none : Option Jvm.ClassFile.FieldType)) ∈ GT := gt_of (ts_4 (List.mem_of_getElem? (i := 105) rfl)) rfl
theorem g_4_106 : (Jvm.Cond.methodLink "BundleHouse$Program" (56 : Nat) ({ cls := "java/lang/System", name := "arraycopy", desc := "(Ljava/lang/Object;ILjava/lang/Object;II)V" } : Jvm.MethodName)) ∈ GT := gt_of (ts_4 (List.mem_of_getElem? (i := 106) rfl)) rfl
theorem g_4_108 : (Jvm.Cond.instanceMethod ({ cls := "BundleHouse", name := "size", desc := "()I" } : Jvm.MethodName)) ∈ GT := gt_of (ts_4 (List.mem_of_getElem? (i := 108) rfl)) rfl
theorem g_4_109 : (Jvm.Cond.selects "BundleHouse" ({ cls := "BundleHouse", name := "size", desc := "()I" } : Jvm.MethodName) ({ cls := "BundleHouse", name := "size", desc := "()I" } : Jvm.MethodName)) ∈ GT := gt_of (ts_4 (List.mem_of_getElem? (i := 109) rfl)) rfl
theorem g_4_11 : (Jvm.Cond.code ({ cls := "BundleHouse$Program", name := "pushes", desc := "(I)Z" } : Jvm.MethodName) prog_8_method_11_code (2 : Nat) (Option.some Jvm.ClassFile.FieldType.boolean)) ∈ GT := gt_of (ts_4 (List.mem_of_getElem? (i := 11) rfl)) rfl
theorem g_4_110 : (Jvm.Cond.code ({ cls := "BundleHouse", name := "size", desc := "()I" } : Jvm.MethodName) prog_1_method_10_code (1 : Nat) (Option.some Jvm.ClassFile.FieldType.int)) ∈ GT := gt_of (ts_4 (List.mem_of_getElem? (i := 110) rfl)) rfl
theorem g_4_112 : (Jvm.Cond.instanceMethod ({ cls := "BundleHouse", name := "code", desc := "(I)I" } : Jvm.MethodName)) ∈ GT := gt_of (ts_4 (List.mem_of_getElem? (i := 112) rfl)) rfl
theorem g_4_113 : (Jvm.Cond.selects "BundleHouse" ({ cls := "BundleHouse", name := "code", desc := "(I)I" } : Jvm.MethodName) ({ cls := "BundleHouse", name := "code", desc := "(I)I" } : Jvm.MethodName)) ∈ GT := gt_of (ts_4 (List.mem_of_getElem? (i := 113) rfl)) rfl
theorem g_4_114 : (Jvm.Cond.code ({ cls := "BundleHouse", name := "code", desc := "(I)I" } : Jvm.MethodName) prog_1_method_11_code (2 : Nat) (Option.some Jvm.ClassFile.FieldType.int)) ∈ GT := gt_of (ts_4 (List.mem_of_getElem? (i := 114) rfl)) rfl
theorem g_4_115 : (Jvm.Cond.methodLink "BundleHouse" (150 : Nat) ({ cls := "BundleHouse$Strip", name := "byteAt", desc := "(I)I" } : Jvm.MethodName)) ∈ GT := gt_of (ts_4 (List.mem_of_getElem? (i := 115) rfl)) rfl
theorem g_4_117 : (Jvm.Cond.instanceMethod ({ cls := "BundleHouse", name := "place", desc := "(II)I" } : Jvm.MethodName)) ∈ GT := gt_of (ts_4 (List.mem_of_getElem? (i := 117) rfl)) rfl
theorem g_4_118 : (Jvm.Cond.selects "BundleHouse" ({ cls := "BundleHouse", name := "place", desc := "(II)I" } : Jvm.MethodName) ({ cls := "BundleHouse", name := "place", desc := "(II)I" } : Jvm.MethodName)) ∈ GT := gt_of (ts_4 (List.mem_of_getElem? (i := 118) rfl)) rfl
theorem g_4_119 : (Jvm.Cond.code ({ cls := "BundleHouse", name := "place", desc := "(II)I" } : Jvm.MethodName) prog_1_method_13_code (3 : Nat) (Option.some Jvm.ClassFile.FieldType.int)) ∈ GT := gt_of (ts_4 (List.mem_of_getElem? (i := 119) rfl)) rfl
theorem g_4_12 : (Jvm.Cond.methodLink "BundleHouse$Builder" (107 : Nat) ({ cls := "BundleHouse$Builder", name := "layLast", desc := "(I)I" } : Jvm.MethodName)) ∈ GT := gt_of (ts_4 (List.mem_of_getElem? (i := 12) rfl)) rfl
theorem g_4_120 : (Jvm.Cond.methodLink "BundleHouse" (179 : Nat) ({ cls := "BundleHouse$Program", name := "itemPlace", desc := "(I)I" } : Jvm.MethodName)) ∈ GT := gt_of (ts_4 (List.mem_of_getElem? (i := 120) rfl)) rfl
theorem g_4_121 : (Jvm.Cond.methodLink "BundleHouse" (182 : Nat) ({ cls := "BundleHouse$Program", name := "labelItem", desc := "(I)I" } : Jvm.MethodName)) ∈ GT := gt_of (ts_4 (List.mem_of_getElem? (i := 121) rfl)) rfl
theorem g_4_123 : (Jvm.Cond.instanceMethod ({ cls := "BundleHouse", name := "set", desc := "(III)Z" } : Jvm.MethodName)) ∈ GT := gt_of (ts_4 (List.mem_of_getElem? (i := 123) rfl)) rfl
theorem g_4_124 : (Jvm.Cond.selects "BundleHouse" ({ cls := "BundleHouse", name := "set", desc := "(III)Z" } : Jvm.MethodName) ({ cls := "BundleHouse", name := "set", desc := "(III)Z" } : Jvm.MethodName)) ∈ GT := gt_of (ts_4 (List.mem_of_getElem? (i := 124) rfl)) rfl
theorem g_4_125 : (Jvm.Cond.code ({ cls := "BundleHouse", name := "set", desc := "(III)Z" } : Jvm.MethodName) prog_1_method_14_code (4 : Nat) (Option.some Jvm.ClassFile.FieldType.boolean)) ∈ GT := gt_of (ts_4 (List.mem_of_getElem? (i := 125) rfl)) rfl
theorem g_4_126 : (Jvm.Cond.methodLink "BundleHouse" (188 : Nat) ({ cls := "BundleHouse$Machine", name := "give", desc := "(II)V" } : Jvm.MethodName)) ∈ GT := gt_of (ts_4 (List.mem_of_getElem? (i := 126) rfl)) rfl
theorem g_4_127 : (Jvm.Cond.instanceMethod ({ cls := "BundleHouse$Machine", name := "give", desc := "(II)V" } : Jvm.MethodName)) ∈ GT := gt_of (ts_4 (List.mem_of_getElem? (i := 127) rfl)) rfl
theorem g_4_128 : (Jvm.Cond.selects "BundleHouse$Machine" ({ cls := "BundleHouse$Machine", name := "give", desc := "(II)V" } : Jvm.MethodName) ({ cls := "BundleHouse$Machine", name := "give", desc := "(II)V" } : Jvm.MethodName)) ∈ GT := gt_of (ts_4 (List.mem_of_getElem? (i := 128) rfl)) rfl
theorem g_4_129 : (Jvm.Cond.code ({ cls := "BundleHouse$Machine", name := "give", desc := "(II)V" } : Jvm.MethodName) prog_5_method_10_code (3 : Nat) (Option.none : Option Jvm.ClassFile.FieldType)) ∈ GT := gt_of (ts_4 (List.mem_of_getElem? (i := 129) rfl)) rfl
theorem g_4_131 : (Jvm.Cond.methodLink "BundleHouse" (192 : Nat) ({ cls := "BundleHouse", name := "isWord", desc := "(I)Z" } : Jvm.MethodName)) ∈ GT := gt_of (ts_4 (List.mem_of_getElem? (i := 131) rfl)) rfl
theorem g_4_132 : (Jvm.Cond.static ({ cls := "BundleHouse", name := "isWord", desc := "(I)Z" } : Jvm.MethodName)) ∈ GT := gt_of (ts_4 (List.mem_of_getElem? (i := 132) rfl)) rfl
theorem g_4_133 : (Jvm.Cond.code ({ cls := "BundleHouse", name := "isWord", desc := "(I)Z" } : Jvm.MethodName) prog_1_method_29_code (1 : Nat) (Option.some Jvm.ClassFile.FieldType.boolean)) ∈ GT := gt_of (ts_4 (List.mem_of_getElem? (i := 133) rfl)) rfl
theorem g_4_134 : (Jvm.Cond.methodLink "BundleHouse" (195 : Nat) ({ cls := "BundleHouse$Machine", name := "giveWord", desc := "(II)V" } : Jvm.MethodName)) ∈ GT := gt_of (ts_4 (List.mem_of_getElem? (i := 134) rfl)) rfl
theorem g_4_135 : (Jvm.Cond.instanceMethod ({ cls := "BundleHouse$Machine", name := "giveWord", desc := "(II)V" } : Jvm.MethodName)) ∈ GT := gt_of (ts_4 (List.mem_of_getElem? (i := 135) rfl)) rfl
theorem g_4_136 : (Jvm.Cond.selects "BundleHouse$Machine" ({ cls := "BundleHouse$Machine", name := "giveWord", desc := "(II)V" } : Jvm.MethodName) ({ cls := "BundleHouse$Machine", name := "giveWord", desc := "(II)V" } : Jvm.MethodName)) ∈ GT := gt_of (ts_4 (List.mem_of_getElem? (i := 136) rfl)) rfl
theorem g_4_137 : (Jvm.Cond.code ({ cls := "BundleHouse$Machine", name := "giveWord", desc := "(II)V" } : Jvm.MethodName) prog_5_method_12_code (3 : Nat) (Option.none : Option Jvm.ClassFile.FieldType)) ∈ GT := gt_of (ts_4 (List.mem_of_getElem? (i := 137) rfl)) rfl
theorem g_4_139 : (Jvm.Cond.methodLink "BundleHouse" (198 : Nat) ({ cls := "BundleHouse$Machine", name := "addInput", desc := "(I)Z" } : Jvm.MethodName)) ∈ GT := gt_of (ts_4 (List.mem_of_getElem? (i := 139) rfl)) rfl
theorem g_4_14 : (Jvm.Cond.instanceMethod ({ cls := "BundleHouse$Builder", name := "layLast", desc := "(I)I" } : Jvm.MethodName)) ∈ GT := gt_of (ts_4 (List.mem_of_getElem? (i := 14) rfl)) rfl
theorem g_4_140 : (Jvm.Cond.instanceMethod ({ cls := "BundleHouse$Machine", name := "addInput", desc := "(I)Z" } : Jvm.MethodName)) ∈ GT := gt_of (ts_4 (List.mem_of_getElem? (i := 140) rfl)) rfl
theorem g_4_141 : (Jvm.Cond.selects "BundleHouse$Machine" ({ cls := "BundleHouse$Machine", name := "addInput", desc := "(I)Z" } : Jvm.MethodName) ({ cls := "BundleHouse$Machine", name := "addInput", desc := "(I)Z" } : Jvm.MethodName)) ∈ GT := gt_of (ts_4 (List.mem_of_getElem? (i := 141) rfl)) rfl
theorem g_4_142 : (Jvm.Cond.code ({ cls := "BundleHouse$Machine", name := "addInput", desc := "(I)Z" } : Jvm.MethodName) prog_5_method_4_code (2 : Nat) (Option.some Jvm.ClassFile.FieldType.boolean)) ∈ GT := gt_of (ts_4 (List.mem_of_getElem? (i := 142) rfl)) rfl
theorem g_4_143 : (Jvm.Cond.methodLink "BundleHouse" (201 : Nat) ({ cls := "BundleHouse$Machine", name := "forget", desc := "()V" } : Jvm.MethodName)) ∈ GT := gt_of (ts_4 (List.mem_of_getElem? (i := 143) rfl)) rfl
theorem g_4_144 : (Jvm.Cond.instanceMethod ({ cls := "BundleHouse$Machine", name := "forget", desc := "()V" } : Jvm.MethodName)) ∈ GT := gt_of (ts_4 (List.mem_of_getElem? (i := 144) rfl)) rfl
theorem g_4_145 : (Jvm.Cond.selects "BundleHouse$Machine" ({ cls := "BundleHouse$Machine", name := "forget", desc := "()V" } : Jvm.MethodName) ({ cls := "BundleHouse$Machine", name := "forget", desc := "()V" } : Jvm.MethodName)) ∈ GT := gt_of (ts_4 (List.mem_of_getElem? (i := 145) rfl)) rfl
theorem g_4_146 : (Jvm.Cond.code ({ cls := "BundleHouse$Machine", name := "forget", desc := "()V" } : Jvm.MethodName) prog_5_method_2_code (2 : Nat) (Option.none : Option Jvm.ClassFile.FieldType)) ∈ GT := gt_of (ts_4 (List.mem_of_getElem? (i := 146) rfl)) rfl
theorem g_4_148 : (Jvm.Cond.instanceMethod ({ cls := "BundleHouse", name := "data", desc := "(ZI)I" } : Jvm.MethodName)) ∈ GT := gt_of (ts_4 (List.mem_of_getElem? (i := 148) rfl)) rfl
theorem g_4_149 : (Jvm.Cond.selects "BundleHouse" ({ cls := "BundleHouse", name := "data", desc := "(ZI)I" } : Jvm.MethodName) ({ cls := "BundleHouse", name := "data", desc := "(ZI)I" } : Jvm.MethodName)) ∈ GT := gt_of (ts_4 (List.mem_of_getElem? (i := 149) rfl)) rfl
theorem g_4_15 : (Jvm.Cond.code ({ cls := "BundleHouse$Builder", name := "layLast", desc := "(I)I" } : Jvm.MethodName) prog_2_method_9_code (2 : Nat) (Option.some Jvm.ClassFile.FieldType.int)) ∈ GT := gt_of (ts_4 (List.mem_of_getElem? (i := 15) rfl)) rfl
theorem g_4_150 : (Jvm.Cond.code ({ cls := "BundleHouse", name := "data", desc := "(ZI)I" } : Jvm.MethodName) prog_1_method_18_code (4 : Nat) (Option.some Jvm.ClassFile.FieldType.int)) ∈ GT := gt_of (ts_4 (List.mem_of_getElem? (i := 150) rfl)) rfl
theorem g_4_151 : (Jvm.Cond.methodLink "BundleHouse" (230 : Nat) ({ cls := "BundleHouse$Machine", name := "byteAt", desc := "(I)I" } : Jvm.MethodName)) ∈ GT := gt_of (ts_4 (List.mem_of_getElem? (i := 151) rfl)) rfl
theorem g_4_152 : (Jvm.Cond.instanceMethod ({ cls := "BundleHouse$Machine", name := "byteAt", desc := "(I)I" } : Jvm.MethodName)) ∈ GT := gt_of (ts_4 (List.mem_of_getElem? (i := 152) rfl)) rfl
theorem g_4_153 : (Jvm.Cond.selects "BundleHouse$Machine" ({ cls := "BundleHouse$Machine", name := "byteAt", desc := "(I)I" } : Jvm.MethodName) ({ cls := "BundleHouse$Machine", name := "byteAt", desc := "(I)I" } : Jvm.MethodName)) ∈ GT := gt_of (ts_4 (List.mem_of_getElem? (i := 153) rfl)) rfl
theorem g_4_154 : (Jvm.Cond.code ({ cls := "BundleHouse$Machine", name := "byteAt", desc := "(I)I" } : Jvm.MethodName) prog_5_method_6_code (2 : Nat) (Option.some Jvm.ClassFile.FieldType.int)) ∈ GT := gt_of (ts_4 (List.mem_of_getElem? (i := 154) rfl)) rfl
theorem g_4_16 : (Jvm.Cond.methodLink "BundleHouse$Builder" (113 : Nat) ({ cls := "BundleHouse$Builder", name := "leftInBundle", desc := "()I" } : Jvm.MethodName)) ∈ GT := gt_of (ts_4 (List.mem_of_getElem? (i := 16) rfl)) rfl
theorem g_4_18 : (Jvm.Cond.instanceMethod ({ cls := "BundleHouse$Builder", name := "leftInBundle", desc := "()I" } : Jvm.MethodName)) ∈ GT := gt_of (ts_4 (List.mem_of_getElem? (i := 18) rfl)) rfl
theorem g_4_19 : (Jvm.Cond.code ({ cls := "BundleHouse$Builder", name := "leftInBundle", desc := "()I" } : Jvm.MethodName) prog_2_method_7_code (1 : Nat) (Option.some Jvm.ClassFile.FieldType.int)) ∈ GT := gt_of (ts_4 (List.mem_of_getElem? (i := 19) rfl)) rfl
theorem g_4_2 : (Jvm.Cond.instanceMethod ({ cls := "BundleHouse$Builder", name := "layAll", desc := "()V" } : Jvm.MethodName)) ∈ GT := gt_of (ts_4 (List.mem_of_getElem? (i := 2) rfl)) rfl
theorem g_4_20 : (Jvm.Cond.methodLink "BundleHouse$Builder" (110 : Nat) ({ cls := "BundleHouse$Builder", name := "layPiece", desc := "(I)I" } : Jvm.MethodName)) ∈ GT := gt_of (ts_4 (List.mem_of_getElem? (i := 20) rfl)) rfl
theorem g_4_22 : (Jvm.Cond.instanceMethod ({ cls := "BundleHouse$Builder", name := "layPiece", desc := "(I)I" } : Jvm.MethodName)) ∈ GT := gt_of (ts_4 (List.mem_of_getElem? (i := 22) rfl)) rfl
theorem g_4_23 : (Jvm.Cond.code ({ cls := "BundleHouse$Builder", name := "layPiece", desc := "(I)I" } : Jvm.MethodName) prog_2_method_8_code (3 : Nat) (Option.some Jvm.ClassFile.FieldType.int)) ∈ GT := gt_of (ts_4 (List.mem_of_getElem? (i := 23) rfl)) rfl
theorem g_4_235 : (Jvm.Cond.instanceMethod ({ cls := "BundleHouse$Instruction", name := "part", desc := "(I)I" } : Jvm.MethodName)) ∈ GT := gt_of (ts_4 (List.mem_of_getElem? (i := 235) rfl)) rfl
theorem g_4_236 : (Jvm.Cond.selects "BundleHouse$Instruction" ({ cls := "BundleHouse$Instruction", name := "part", desc := "(I)I" } : Jvm.MethodName) ({ cls := "BundleHouse$Instruction", name := "part", desc := "(I)I" } : Jvm.MethodName)) ∈ GT := gt_of (ts_4 (List.mem_of_getElem? (i := 236) rfl)) rfl
theorem g_4_237 : (Jvm.Cond.code ({ cls := "BundleHouse$Instruction", name := "part", desc := "(I)I" } : Jvm.MethodName) prog_4_method_6_code (2 : Nat) (Option.some Jvm.ClassFile.FieldType.int)) ∈ GT := gt_of (ts_4 (List.mem_of_getElem? (i := 237) rfl)) rfl
theorem g_4_24 : (Jvm.Cond.methodLink "BundleHouse$Builder" (59 : Nat) ({ cls := "BundleHouse$Builder", name := "lengthen", desc := "()Z" } : Jvm.MethodName)) ∈ GT := gt_of (ts_4 (List.mem_of_getElem? (i := 24) rfl)) rfl
theorem g_4_26 : (Jvm.Cond.instanceMethod ({ cls := "BundleHouse$Builder", name := "lengthen", desc := "()Z" } : Jvm.MethodName)) ∈ GT := gt_of (ts_4 (List.mem_of_getElem? (i := 26) rfl)) rfl
theorem g_4_27 : (Jvm.Cond.code ({ cls := "BundleHouse$Builder", name := "lengthen", desc := "()Z" } : Jvm.MethodName) prog_2_method_10_code (4 : Nat) (Option.some Jvm.ClassFile.FieldType.boolean)) ∈ GT := gt_of (ts_4 (List.mem_of_getElem? (i := 27) rfl)) rfl
theorem g_4_28 : (Jvm.Cond.methodLink "BundleHouse$Builder" (116 : Nat) ({ cls := "BundleHouse$Builder", name := "distance", desc := "(I)I" } : Jvm.MethodName)) ∈ GT := gt_of (ts_4 (List.mem_of_getElem? (i := 28) rfl)) rfl
theorem g_4_3 : (Jvm.Cond.code ({ cls := "BundleHouse$Builder", name := "layAll", desc := "()V" } : Jvm.MethodName) prog_2_method_5_code (2 : Nat) (Option.none : Option Jvm.ClassFile.FieldType)) ∈ GT := gt_of (ts_4 (List.mem_of_getElem? (i := 3) rfl)) rfl
theorem g_4_30 : (Jvm.Cond.instanceMethod ({ cls := "BundleHouse$Builder", name := "distance", desc := "(I)I" } : Jvm.MethodName)) ∈ GT := gt_of (ts_4 (List.mem_of_getElem? (i := 30) rfl)) rfl
theorem g_4_31 : (Jvm.Cond.code ({ cls := "BundleHouse$Builder", name := "distance", desc := "(I)I" } : Jvm.MethodName) prog_2_method_12_code (2 : Nat) (Option.some Jvm.ClassFile.FieldType.int)) ∈ GT := gt_of (ts_4 (List.mem_of_getElem? (i := 31) rfl)) rfl
theorem g_4_32 : (Jvm.Cond.methodLink "BundleHouse$Builder" (125 : Nat) ({ cls := "BundleHouse$Builder", name := "labelPlace", desc := "(I)I" } : Jvm.MethodName)) ∈ GT := gt_of (ts_4 (List.mem_of_getElem? (i := 32) rfl)) rfl
theorem g_4_34 : (Jvm.Cond.instanceMethod ({ cls := "BundleHouse$Builder", name := "labelPlace", desc := "(I)I" } : Jvm.MethodName)) ∈ GT := gt_of (ts_4 (List.mem_of_getElem? (i := 34) rfl)) rfl
theorem g_4_35 : (Jvm.Cond.code ({ cls := "BundleHouse$Builder", name := "labelPlace", desc := "(I)I" } : Jvm.MethodName) prog_2_method_11_code (2 : Nat) (Option.some Jvm.ClassFile.FieldType.int)) ∈ GT := gt_of (ts_4 (List.mem_of_getElem? (i := 35) rfl)) rfl
theorem g_4_36 : (Jvm.Cond.methodLink "BundleHouse$Builder" (122 : Nat) ({ cls := "BundleHouse$Program", name := "itemPlace", desc := "(I)I" } : Jvm.MethodName)) ∈ GT := gt_of (ts_4 (List.mem_of_getElem? (i := 36) rfl)) rfl
theorem g_4_37 : (Jvm.Cond.instanceMethod ({ cls := "BundleHouse$Program", name := "itemPlace", desc := "(I)I" } : Jvm.MethodName)) ∈ GT := gt_of (ts_4 (List.mem_of_getElem? (i := 37) rfl)) rfl
theorem g_4_38 : (Jvm.Cond.selects "BundleHouse$Program" ({ cls := "BundleHouse$Program", name := "itemPlace", desc := "(I)I" } : Jvm.MethodName) ({ cls := "BundleHouse$Program", name := "itemPlace", desc := "(I)I" } : Jvm.MethodName)) ∈ GT := gt_of (ts_4 (List.mem_of_getElem? (i := 38) rfl)) rfl
theorem g_4_39 : (Jvm.Cond.code ({ cls := "BundleHouse$Program", name := "itemPlace", desc := "(I)I" } : Jvm.MethodName) prog_8_method_8_code (2 : Nat) (Option.some Jvm.ClassFile.FieldType.int)) ∈ GT := gt_of (ts_4 (List.mem_of_getElem? (i := 39) rfl)) rfl
theorem g_4_4 : (Jvm.Cond.methodLink "BundleHouse$Builder" (98 : Nat) ({ cls := "BundleHouse$Builder", name := "layItem", desc := "(I)I" } : Jvm.MethodName)) ∈ GT := gt_of (ts_4 (List.mem_of_getElem? (i := 4) rfl)) rfl
theorem g_4_41 : (Jvm.Cond.methodLink "BundleHouse$Builder" (63 : Nat) ({ cls := "BundleHouse$Builder", name := "wholeSize", desc := "()I" } : Jvm.MethodName)) ∈ GT := gt_of (ts_4 (List.mem_of_getElem? (i := 41) rfl)) rfl
theorem g_4_43 : (Jvm.Cond.instanceMethod ({ cls := "BundleHouse$Builder", name := "wholeSize", desc := "()I" } : Jvm.MethodName)) ∈ GT := gt_of (ts_4 (List.mem_of_getElem? (i := 43) rfl)) rfl
theorem g_4_44 : (Jvm.Cond.code ({ cls := "BundleHouse$Builder", name := "wholeSize", desc := "()I" } : Jvm.MethodName) prog_2_method_13_code (1 : Nat) (Option.some Jvm.ClassFile.FieldType.int)) ∈ GT := gt_of (ts_4 (List.mem_of_getElem? (i := 44) rfl)) rfl
theorem g_4_45 : (Jvm.Cond.methodLink "BundleHouse" (144 : Nat) ({ cls := "BundleHouse$Builder", name := "writeCode", desc := "()V" } : Jvm.MethodName)) ∈ GT := gt_of (ts_4 (List.mem_of_getElem? (i := 45) rfl)) rfl
theorem g_4_46 : (Jvm.Cond.instanceMethod ({ cls := "BundleHouse$Builder", name := "writeCode", desc := "()V" } : Jvm.MethodName)) ∈ GT := gt_of (ts_4 (List.mem_of_getElem? (i := 46) rfl)) rfl
theorem g_4_47 : (Jvm.Cond.selects "BundleHouse$Builder" ({ cls := "BundleHouse$Builder", name := "writeCode", desc := "()V" } : Jvm.MethodName) ({ cls := "BundleHouse$Builder", name := "writeCode", desc := "()V" } : Jvm.MethodName)) ∈ GT := gt_of (ts_4 (List.mem_of_getElem? (i := 47) rfl)) rfl
theorem g_4_48 : (Jvm.Cond.code ({ cls := "BundleHouse$Builder", name := "writeCode", desc := "()V" } : Jvm.MethodName) prog_2_method_14_code (2 : Nat) (Option.none : Option Jvm.ClassFile.FieldType)) ∈ GT := gt_of (ts_4 (List.mem_of_getElem? (i := 48) rfl)) rfl
theorem g_4_49 : (Jvm.Cond.methodLink "BundleHouse$Builder" (128 : Nat) ({ cls := "BundleHouse$Program", name := "findLandings", desc := "()V" } : Jvm.MethodName)) ∈ GT := gt_of (ts_4 (List.mem_of_getElem? (i := 49) rfl)) rfl
theorem g_4_50 : (Jvm.Cond.instanceMethod ({ cls := "BundleHouse$Program", name := "findLandings", desc := "()V" } : Jvm.MethodName)) ∈ GT := gt_of (ts_4 (List.mem_of_getElem? (i := 50) rfl)) rfl
theorem g_4_51 : (Jvm.Cond.selects "BundleHouse$Program" ({ cls := "BundleHouse$Program", name := "findLandings", desc := "()V" } : Jvm.MethodName) ({ cls := "BundleHouse$Program", name := "findLandings", desc := "()V" } : Jvm.MethodName)) ∈ GT := gt_of (ts_4 (List.mem_of_getElem? (i := 51) rfl)) rfl
theorem g_4_52 : (Jvm.Cond.code ({ cls := "BundleHouse$Program", name := "findLandings", desc := "()V" } : Jvm.MethodName) prog_8_method_13_code (2 : Nat) (Option.none : Option Jvm.ClassFile.FieldType)) ∈ GT := gt_of (ts_4 (List.mem_of_getElem? (i := 52) rfl)) rfl
theorem g_4_53 : (Jvm.Cond.methodLink "BundleHouse$Program" (78 : Nat) ({ cls := "BundleHouse$Program", name := "isMarked", desc := "(I)Z" } : Jvm.MethodName)) ∈ GT := gt_of (ts_4 (List.mem_of_getElem? (i := 53) rfl)) rfl
theorem g_4_54 : (Jvm.Cond.methodLink "BundleHouse$Program" (81 : Nat) ({ cls := "BundleHouse$Program", name := "itemPlace", desc := "(I)I" } : Jvm.MethodName)) ∈ GT := gt_of (ts_4 (List.mem_of_getElem? (i := 54) rfl)) rfl
theorem g_4_55 : (Jvm.Cond.methodLink "BundleHouse$Program" (85 : Nat) ({ cls := "BundleHouse$Program", name := "giveLanding", desc := "(II)V" } : Jvm.MethodName)) ∈ GT := gt_of (ts_4 (List.mem_of_getElem? (i := 55) rfl)) rfl
theorem g_4_57 : (Jvm.Cond.instanceMethod ({ cls := "BundleHouse$Program", name := "giveLanding", desc := "(II)V" } : Jvm.MethodName)) ∈ GT := gt_of (ts_4 (List.mem_of_getElem? (i := 57) rfl)) rfl
theorem g_4_58 : (Jvm.Cond.code ({ cls := "BundleHouse$Program", name := "giveLanding", desc := "(II)V" } : Jvm.MethodName) prog_8_method_14_code (4 : Nat) (Option.none : Option Jvm.ClassFile.FieldType)) ∈ GT := gt_of (ts_4 (List.mem_of_getElem? (i := 58) rfl)) rfl
theorem g_4_59 : (Jvm.Cond.methodLink "BundleHouse$Program" (89 : Nat) ({ cls := "BundleHouse$Program", name := "pushes", desc := "(I)Z" } : Jvm.MethodName)) ∈ GT := gt_of (ts_4 (List.mem_of_getElem? (i := 59) rfl)) rfl
theorem g_4_6 : (Jvm.Cond.instanceMethod ({ cls := "BundleHouse$Builder", name := "layItem", desc := "(I)I" } : Jvm.MethodName)) ∈ GT := gt_of (ts_4 (List.mem_of_getElem? (i := 6) rfl)) rfl
theorem g_4_60 : (Jvm.Cond.methodLink "BundleHouse$Builder" (131 : Nat) ({ cls := "BundleHouse$Strip", name := "becomeFilling", desc := "(II)V" } : Jvm.MethodName)) ∈ GT := gt_of (ts_4 (List.mem_of_getElem? (i := 60) rfl)) rfl
theorem g_4_61 : (Jvm.Cond.instanceMethod ({ cls := "BundleHouse$Strip", name := "becomeFilling", desc := "(II)V" } : Jvm.MethodName)) ∈ GT := gt_of (ts_4 (List.mem_of_getElem? (i := 61) rfl)) rfl
theorem g_4_62 : (Jvm.Cond.selects "BundleHouse$Strip" ({ cls := "BundleHouse$Strip", name := "becomeFilling", desc := "(II)V" } : Jvm.MethodName) ({ cls := "BundleHouse$Strip", name := "becomeFilling", desc := "(II)V" } : Jvm.MethodName)) ∈ GT := gt_of (ts_4 (List.mem_of_getElem? (i := 62) rfl)) rfl
theorem g_4_63 : (Jvm.Cond.code ({ cls := "BundleHouse$Strip", name := "becomeFilling", desc := "(II)V" } : Jvm.MethodName) prog_11_method_5_code (4 : Nat) (Option.none : Option Jvm.ClassFile.FieldType)) ∈ GT := gt_of (ts_4 (List.mem_of_getElem? (i := 63) rfl)) rfl
theorem g_4_64 : (Jvm.Cond.methodLink "BundleHouse$Strip" (26 : Nat) ({ cls := "java/lang/Math", name := "min", desc := "(II)I" } : Jvm.MethodName)) ∈ GT := gt_of (ts_4 (List.mem_of_getElem? (i := 64) rfl)) rfl
theorem g_4_65 : (Jvm.Cond.static ({ cls := "java/lang/Math", name := "min", desc := "(II)I" } : Jvm.MethodName)) ∈ GT := gt_of (ts_4 (List.mem_of_getElem? (i := 65) rfl)) rfl
theorem g_4_66 : (Jvm.Cond.code ({ cls := "java/lang/Math", name := "min", desc := "(II)I" } : Jvm.MethodName) prog_18_method_69_code (2 : Nat) (Option.some Jvm.ClassFile.FieldType.int)) ∈ GT := gt_of (ts_4 (List.mem_of_getElem? (i := 66) rfl)) rfl
theorem g_4_67 : (Jvm.Cond.methodLink "BundleHouse$Strip" (32 : Nat) ({ cls := "java/lang/Math", name := "max", desc := "(II)I" } : Jvm.MethodName)) ∈ GT := gt_of (ts_4 (List.mem_of_getElem? (i := 67) rfl)) rfl
theorem g_4_68 : (Jvm.Cond.static ({ cls := "java/lang/Math", name := "max", desc := "(II)I" } : Jvm.MethodName)) ∈ GT := gt_of (ts_4 (List.mem_of_getElem? (i := 68) rfl)) rfl
theorem g_4_69 : (Jvm.Cond.code ({ cls := "java/lang/Math", name := "max", desc := "(II)I" } : Jvm.MethodName) prog_18_method_65_code (2 : Nat) (Option.some Jvm.ClassFile.FieldType.int)) ∈ GT := gt_of (ts_4 (List.mem_of_getElem? (i := 69) rfl)) rfl
theorem g_4_7 : (Jvm.Cond.code ({ cls := "BundleHouse$Builder", name := "layItem", desc := "(I)I" } : Jvm.MethodName) prog_2_method_6_code (3 : Nat) (Option.some Jvm.ClassFile.FieldType.int)) ∈ GT := gt_of (ts_4 (List.mem_of_getElem? (i := 7) rfl)) rfl
theorem g_4_70 : (Jvm.Cond.methodLink "BundleHouse$Builder" (137 : Nat) ({ cls := "BundleHouse$Builder", name := "makePiece", desc := "(I)V" } : Jvm.MethodName)) ∈ GT := gt_of (ts_4 (List.mem_of_getElem? (i := 70) rfl)) rfl
theorem g_4_72 : (Jvm.Cond.instanceMethod ({ cls := "BundleHouse$Builder", name := "makePiece", desc := "(I)V" } : Jvm.MethodName)) ∈ GT := gt_of (ts_4 (List.mem_of_getElem? (i := 72) rfl)) rfl
theorem g_4_73 : (Jvm.Cond.code ({ cls := "BundleHouse$Builder", name := "makePiece", desc := "(I)V" } : Jvm.MethodName) prog_2_method_15_code (3 : Nat) (Option.none : Option Jvm.ClassFile.FieldType)) ∈ GT := gt_of (ts_4 (List.mem_of_getElem? (i := 73) rfl)) rfl
theorem g_4_74 : (Jvm.Cond.methodLink "BundleHouse$Builder" (149 : Nat) ({ cls := "BundleHouse$Builder", name := "makeJump", desc := "(II)V" } : Jvm.MethodName)) ∈ GT := gt_of (ts_4 (List.mem_of_getElem? (i := 74) rfl)) rfl
theorem g_4_76 : (Jvm.Cond.instanceMethod ({ cls := "BundleHouse$Builder", name := "makeJump", desc := "(II)V" } : Jvm.MethodName)) ∈ GT := gt_of (ts_4 (List.mem_of_getElem? (i := 76) rfl)) rfl
theorem g_4_77 : (Jvm.Cond.code ({ cls := "BundleHouse$Builder", name := "makeJump", desc := "(II)V" } : Jvm.MethodName) prog_2_method_16_code (4 : Nat) (Option.none : Option Jvm.ClassFile.FieldType)) ∈ GT := gt_of (ts_4 (List.mem_of_getElem? (i := 77) rfl)) rfl
theorem g_4_78 : (Jvm.Cond.methodLink "BundleHouse$Builder" (161 : Nat) ({ cls := "BundleHouse$Piece", name := "becomeShort", desc := "(II)V" } : Jvm.MethodName)) ∈ GT := gt_of (ts_4 (List.mem_of_getElem? (i := 78) rfl)) rfl
theorem g_4_79 : (Jvm.Cond.instanceMethod ({ cls := "BundleHouse$Piece", name := "becomeShort", desc := "(II)V" } : Jvm.MethodName)) ∈ GT := gt_of (ts_4 (List.mem_of_getElem? (i := 79) rfl)) rfl
theorem g_4_8 : (Jvm.Cond.methodLink "BundleHouse$Builder" (104 : Nat) ({ cls := "BundleHouse$Program", name := "pushes", desc := "(I)Z" } : Jvm.MethodName)) ∈ GT := gt_of (ts_4 (List.mem_of_getElem? (i := 8) rfl)) rfl
theorem g_4_80 : (Jvm.Cond.selects "BundleHouse$Piece" ({ cls := "BundleHouse$Piece", name := "becomeShort", desc := "(II)V" } : Jvm.MethodName) ({ cls := "BundleHouse$Piece", name := "becomeShort", desc := "(II)V" } : Jvm.MethodName)) ∈ GT := gt_of (ts_4 (List.mem_of_getElem? (i := 80) rfl)) rfl
theorem g_4_81 : (Jvm.Cond.code ({ cls := "BundleHouse$Piece", name := "becomeShort", desc := "(II)V" } : Jvm.MethodName) prog_6_method_8_code (3 : Nat) (Option.none : Option Jvm.ClassFile.FieldType)) ∈ GT := gt_of (ts_4 (List.mem_of_getElem? (i := 81) rfl)) rfl
theorem g_4_82 : (Jvm.Cond.methodLink "BundleHouse$Builder" (152 : Nat) ({ cls := "BundleHouse$Piece", name := "becomeWithFour", desc := "(II)V" } : Jvm.MethodName)) ∈ GT := gt_of (ts_4 (List.mem_of_getElem? (i := 82) rfl)) rfl
theorem g_4_83 : (Jvm.Cond.instanceMethod ({ cls := "BundleHouse$Piece", name := "becomeWithFour", desc := "(II)V" } : Jvm.MethodName)) ∈ GT := gt_of (ts_4 (List.mem_of_getElem? (i := 83) rfl)) rfl
theorem g_4_84 : (Jvm.Cond.selects "BundleHouse$Piece" ({ cls := "BundleHouse$Piece", name := "becomeWithFour", desc := "(II)V" } : Jvm.MethodName) ({ cls := "BundleHouse$Piece", name := "becomeWithFour", desc := "(II)V" } : Jvm.MethodName)) ∈ GT := gt_of (ts_4 (List.mem_of_getElem? (i := 84) rfl)) rfl
theorem g_4_85 : (Jvm.Cond.code ({ cls := "BundleHouse$Piece", name := "becomeWithFour", desc := "(II)V" } : Jvm.MethodName) prog_6_method_7_code (3 : Nat) (Option.none : Option Jvm.ClassFile.FieldType)) ∈ GT := gt_of (ts_4 (List.mem_of_getElem? (i := 85) rfl)) rfl
theorem g_4_86 : (Jvm.Cond.methodLink "BundleHouse$Builder" (164 : Nat) ({ cls := "BundleHouse$Piece", name := "becomeLongBranch", desc := "(II)V" } : Jvm.MethodName)) ∈ GT := gt_of (ts_4 (List.mem_of_getElem? (i := 86) rfl)) rfl
theorem g_4_87 : (Jvm.Cond.instanceMethod ({ cls := "BundleHouse$Piece", name := "becomeLongBranch", desc := "(II)V" } : Jvm.MethodName)) ∈ GT := gt_of (ts_4 (List.mem_of_getElem? (i := 87) rfl)) rfl
theorem g_4_88 : (Jvm.Cond.selects "BundleHouse$Piece" ({ cls := "BundleHouse$Piece", name := "becomeLongBranch", desc := "(II)V" } : Jvm.MethodName) ({ cls := "BundleHouse$Piece", name := "becomeLongBranch", desc := "(II)V" } : Jvm.MethodName)) ∈ GT := gt_of (ts_4 (List.mem_of_getElem? (i := 88) rfl)) rfl
theorem g_4_89 : (Jvm.Cond.code ({ cls := "BundleHouse$Piece", name := "becomeLongBranch", desc := "(II)V" } : Jvm.MethodName) prog_6_method_9_code (3 : Nat) (Option.none : Option Jvm.ClassFile.FieldType)) ∈ GT := gt_of (ts_4 (List.mem_of_getElem? (i := 89) rfl)) rfl
theorem g_4_9 : (Jvm.Cond.instanceMethod ({ cls := "BundleHouse$Program", name := "pushes", desc := "(I)Z" } : Jvm.MethodName)) ∈ GT := gt_of (ts_4 (List.mem_of_getElem? (i := 9) rfl)) rfl
theorem g_4_90 : (Jvm.Cond.methodLink "BundleHouse$Builder" (145 : Nat) ({ cls := "BundleHouse$Piece", name := "becomePair", desc := "(IZ)V" } : Jvm.MethodName)) ∈ GT := gt_of (ts_4 (List.mem_of_getElem? (i := 90) rfl)) rfl
theorem g_4_91 : (Jvm.Cond.instanceMethod ({ cls := "BundleHouse$Piece", name := "becomePair", desc := "(IZ)V" } : Jvm.MethodName)) ∈ GT := gt_of (ts_4 (List.mem_of_getElem? (i := 91) rfl)) rfl
theorem g_4_92 : (Jvm.Cond.selects "BundleHouse$Piece" ({ cls := "BundleHouse$Piece", name := "becomePair", desc := "(IZ)V" } : Jvm.MethodName) ({ cls := "BundleHouse$Piece", name := "becomePair", desc := "(IZ)V" } : Jvm.MethodName)) ∈ GT := gt_of (ts_4 (List.mem_of_getElem? (i := 92) rfl)) rfl
theorem g_4_93 : (Jvm.Cond.code ({ cls := "BundleHouse$Piece", name := "becomePair", desc := "(IZ)V" } : Jvm.MethodName) prog_6_method_6_code (3 : Nat) (Option.none : Option Jvm.ClassFile.FieldType)) ∈ GT := gt_of (ts_4 (List.mem_of_getElem? (i := 93) rfl)) rfl
theorem g_4_94 : (Jvm.Cond.methodLink "BundleHouse$Builder" (155 : Nat) ({ cls := "BundleHouse$Piece", name := "becomeRegisterOp", desc := "(II)V" } : Jvm.MethodName)) ∈ GT := gt_of (ts_4 (List.mem_of_getElem? (i := 94) rfl)) rfl
theorem g_4_95 : (Jvm.Cond.instanceMethod ({ cls := "BundleHouse$Piece", name := "becomeRegisterOp", desc := "(II)V" } : Jvm.MethodName)) ∈ GT := gt_of (ts_4 (List.mem_of_getElem? (i := 95) rfl)) rfl
theorem g_4_96 : (Jvm.Cond.selects "BundleHouse$Piece" ({ cls := "BundleHouse$Piece", name := "becomeRegisterOp", desc := "(II)V" } : Jvm.MethodName) ({ cls := "BundleHouse$Piece", name := "becomeRegisterOp", desc := "(II)V" } : Jvm.MethodName)) ∈ GT := gt_of (ts_4 (List.mem_of_getElem? (i := 96) rfl)) rfl
theorem g_4_97 : (Jvm.Cond.code ({ cls := "BundleHouse$Piece", name := "becomeRegisterOp", desc := "(II)V" } : Jvm.MethodName) prog_6_method_5_code (3 : Nat) (Option.none : Option Jvm.ClassFile.FieldType)) ∈ GT := gt_of (ts_4 (List.mem_of_getElem? (i := 97) rfl)) rfl
theorem g_4_98 : (Jvm.Cond.methodLink "BundleHouse$Builder" (141 : Nat) ({ cls := "BundleHouse$Strip", name := "putPiece", desc := "(ILBundleHouse$Piece;)V" } : Jvm.MethodName)) ∈ GT := gt_of (ts_4 (List.mem_of_getElem? (i := 98) rfl)) rfl
theorem g_4_99 : (Jvm.Cond.instanceMethod ({ cls := "BundleHouse$Strip", name := "putPiece", desc := "(ILBundleHouse$Piece;)V" } : Jvm.MethodName)) ∈ GT := gt_of (ts_4 (List.mem_of_getElem? (i := 99) rfl)) rfl
theorem g_5_100 : (Jvm.Cond.instanceMethod ({ cls := "BundleHouse$Flags", name := "holds", desc := "(I)Z" } : Jvm.MethodName)) ∈ GT := gt_of (ts_5 (List.mem_of_getElem? (i := 100) rfl)) rfl
theorem g_5_101 : (Jvm.Cond.selects "BundleHouse$Flags" ({ cls := "BundleHouse$Flags", name := "holds", desc := "(I)Z" } : Jvm.MethodName) ({ cls := "BundleHouse$Flags", name := "holds", desc := "(I)Z" } : Jvm.MethodName)) ∈ GT := gt_of (ts_5 (List.mem_of_getElem? (i := 101) rfl)) rfl
theorem g_5_102 : (Jvm.Cond.code ({ cls := "BundleHouse$Flags", name := "holds", desc := "(I)Z" } : Jvm.MethodName) prog_3_method_11_code (3 : Nat) (Option.some Jvm.ClassFile.FieldType.boolean)) ∈ GT := gt_of (ts_5 (List.mem_of_getElem? (i := 102) rfl)) rfl
theorem g_5_103 : (Jvm.Cond.methodLink "BundleHouse$Runner" (86 : Nat) ({ cls := "BundleHouse$Machine", name := "perform", desc := "(LBundleHouse$Instruction;)I" } : Jvm.MethodName)) ∈ GT := gt_of (ts_5 (List.mem_of_getElem? (i := 103) rfl)) rfl
theorem g_5_104 : (Jvm.Cond.instanceMethod ({ cls := "BundleHouse$Machine", name := "perform", desc := "(LBundleHouse$Instruction;)I" } : Jvm.MethodName)) ∈ GT := gt_of (ts_5 (List.mem_of_getElem? (i := 104) rfl)) rfl
theorem g_5_105 : (Jvm.Cond.selects "BundleHouse$Machine" ({ cls := "BundleHouse$Machine", name := "perform", desc := "(LBundleHouse$Instruction;)I" } : Jvm.MethodName) ({ cls := "BundleHouse$Machine", name := "perform", desc := "(LBundleHouse$Instruction;)I" } : Jvm.MethodName)) ∈ GT := gt_of (ts_5 (List.mem_of_getElem? (i := 105) rfl)) rfl
theorem g_5_106 : (Jvm.Cond.code ({ cls := "BundleHouse$Machine", name := "perform", desc := "(LBundleHouse$Instruction;)I" } : Jvm.MethodName) prog_5_method_19_code (3 : Nat) (Option.some Jvm.ClassFile.FieldType.int)) ∈ GT := gt_of (ts_5 (List.mem_of_getElem? (i := 106) rfl)) rfl
theorem g_5_107 : (Jvm.Cond.methodLink "BundleHouse$Machine" (103 : Nat) ({ cls := "BundleHouse$Machine", name := "readsUnknown", desc := "(LBundleHouse$Instruction;)Z" } : Jvm.MethodName)) ∈ GT := gt_of (ts_5 (List.mem_of_getElem? (i := 107) rfl)) rfl
theorem g_5_109 : (Jvm.Cond.instanceMethod ({ cls := "BundleHouse$Machine", name := "readsUnknown", desc := "(LBundleHouse$Instruction;)Z" } : Jvm.MethodName)) ∈ GT := gt_of (ts_5 (List.mem_of_getElem? (i := 109) rfl)) rfl
theorem g_5_110 : (Jvm.Cond.code ({ cls := "BundleHouse$Machine", name := "readsUnknown", desc := "(LBundleHouse$Instruction;)Z" } : Jvm.MethodName) prog_5_method_20_code (4 : Nat) (Option.some Jvm.ClassFile.FieldType.boolean)) ∈ GT := gt_of (ts_5 (List.mem_of_getElem? (i := 110) rfl)) rfl
theorem g_5_112 : (Jvm.Cond.methodLink "BundleHouse$Machine" (157 : Nat) ({ cls := "BundleHouse$Instruction", name := "base", desc := "()I" } : Jvm.MethodName)) ∈ GT := gt_of (ts_5 (List.mem_of_getElem? (i := 112) rfl)) rfl
theorem g_5_113 : (Jvm.Cond.methodLink "BundleHouse$Machine" (160 : Nat) ({ cls := "BundleHouse$Instruction", name := "index", desc := "()I" } : Jvm.MethodName)) ∈ GT := gt_of (ts_5 (List.mem_of_getElem? (i := 113) rfl)) rfl
theorem g_5_114 : (Jvm.Cond.methodLink "BundleHouse$Machine" (115 : Nat) ({ cls := "BundleHouse$Machine", name := "addressOf", desc := "(LBundleHouse$Instruction;)I" } : Jvm.MethodName)) ∈ GT := gt_of (ts_5 (List.mem_of_getElem? (i := 114) rfl)) rfl
theorem g_5_116 : (Jvm.Cond.instanceMethod ({ cls := "BundleHouse$Machine", name := "addressOf", desc := "(LBundleHouse$Instruction;)I" } : Jvm.MethodName)) ∈ GT := gt_of (ts_5 (List.mem_of_getElem? (i := 116) rfl)) rfl
theorem g_5_117 : (Jvm.Cond.code ({ cls := "BundleHouse$Machine", name := "addressOf", desc := "(LBundleHouse$Instruction;)I" } : Jvm.MethodName) prog_5_method_22_code (2 : Nat) (Option.some Jvm.ClassFile.FieldType.int)) ∈ GT := gt_of (ts_5 (List.mem_of_getElem? (i := 117) rfl)) rfl
theorem g_5_118 : (Jvm.Cond.methodLink "BundleHouse$Machine" (82 : Nat) ({ cls := "BundleHouse$Machine", name := "registerAt", desc := "(I)I" } : Jvm.MethodName)) ∈ GT := gt_of (ts_5 (List.mem_of_getElem? (i := 118) rfl)) rfl
theorem g_5_119 : (Jvm.Cond.methodLink "BundleHouse$Machine" (173 : Nat) ({ cls := "BundleHouse$Instruction", name := "scale", desc := "()I" } : Jvm.MethodName)) ∈ GT := gt_of (ts_5 (List.mem_of_getElem? (i := 119) rfl)) rfl
theorem g_5_120 : (Jvm.Cond.methodLink "BundleHouse$Machine" (119 : Nat) ({ cls := "BundleHouse$Machine", name := "lacksWord", desc := "(LBundleHouse$Instruction;I)Z" } : Jvm.MethodName)) ∈ GT := gt_of (ts_5 (List.mem_of_getElem? (i := 120) rfl)) rfl
theorem g_5_122 : (Jvm.Cond.instanceMethod ({ cls := "BundleHouse$Machine", name := "lacksWord", desc := "(LBundleHouse$Instruction;I)Z" } : Jvm.MethodName)) ∈ GT := gt_of (ts_5 (List.mem_of_getElem? (i := 122) rfl)) rfl
theorem g_5_123 : (Jvm.Cond.code ({ cls := "BundleHouse$Machine", name := "lacksWord", desc := "(LBundleHouse$Instruction;I)Z" } : Jvm.MethodName) prog_5_method_21_code (3 : Nat) (Option.some Jvm.ClassFile.FieldType.boolean)) ∈ GT := gt_of (ts_5 (List.mem_of_getElem? (i := 123) rfl)) rfl
theorem g_5_124 : (Jvm.Cond.methodLink "BundleHouse$Machine" (166 : Nat) ({ cls := "BundleHouse$Machine", name := "canPush", desc := "()Z" } : Jvm.MethodName)) ∈ GT := gt_of (ts_5 (List.mem_of_getElem? (i := 124) rfl)) rfl
theorem g_5_125 : (Jvm.Cond.methodLink "BundleHouse$Machine" (170 : Nat) ({ cls := "BundleHouse$Machine", name := "canPop", desc := "()Z" } : Jvm.MethodName)) ∈ GT := gt_of (ts_5 (List.mem_of_getElem? (i := 125) rfl)) rfl
theorem g_5_126 : (Jvm.Cond.methodLink "BundleHouse$Machine" (126 : Nat) ({ cls := "BundleHouse$Machine", name := "rightOf", desc := "(LBundleHouse$Instruction;I)I" } : Jvm.MethodName)) ∈ GT := gt_of (ts_5 (List.mem_of_getElem? (i := 126) rfl)) rfl
theorem g_5_128 : (Jvm.Cond.instanceMethod ({ cls := "BundleHouse$Machine", name := "rightOf", desc := "(LBundleHouse$Instruction;I)I" } : Jvm.MethodName)) ∈ GT := gt_of (ts_5 (List.mem_of_getElem? (i := 128) rfl)) rfl
theorem g_5_129 : (Jvm.Cond.code ({ cls := "BundleHouse$Machine", name := "rightOf", desc := "(LBundleHouse$Instruction;I)I" } : Jvm.MethodName) prog_5_method_25_code (3 : Nat) (Option.some Jvm.ClassFile.FieldType.int)) ∈ GT := gt_of (ts_5 (List.mem_of_getElem? (i := 129) rfl)) rfl
theorem g_5_130 : (Jvm.Cond.methodLink "BundleHouse$Machine" (130 : Nat) ({ cls := "BundleHouse$Machine", name := "giveLeft", desc := "(LBundleHouse$Instruction;II)V" } : Jvm.MethodName)) ∈ GT := gt_of (ts_5 (List.mem_of_getElem? (i := 130) rfl)) rfl
theorem g_5_132 : (Jvm.Cond.instanceMethod ({ cls := "BundleHouse$Machine", name := "giveLeft", desc := "(LBundleHouse$Instruction;II)V" } : Jvm.MethodName)) ∈ GT := gt_of (ts_5 (List.mem_of_getElem? (i := 132) rfl)) rfl
theorem g_5_133 : (Jvm.Cond.code ({ cls := "BundleHouse$Machine", name := "giveLeft", desc := "(LBundleHouse$Instruction;II)V" } : Jvm.MethodName) prog_5_method_26_code (4 : Nat) (Option.none : Option Jvm.ClassFile.FieldType)) ∈ GT := gt_of (ts_5 (List.mem_of_getElem? (i := 133) rfl)) rfl
theorem g_5_134 : (Jvm.Cond.methodLink "BundleHouse$Machine" (179 : Nat) ({ cls := "BundleHouse$Machine", name := "changesWord", desc := "(LBundleHouse$Instruction;)Z" } : Jvm.MethodName)) ∈ GT := gt_of (ts_5 (List.mem_of_getElem? (i := 134) rfl)) rfl
theorem g_5_135 : (Jvm.Cond.static ({ cls := "BundleHouse$Machine", name := "changesWord", desc := "(LBundleHouse$Instruction;)Z" } : Jvm.MethodName)) ∈ GT := gt_of (ts_5 (List.mem_of_getElem? (i := 135) rfl)) rfl
theorem g_5_136 : (Jvm.Cond.code ({ cls := "BundleHouse$Machine", name := "changesWord", desc := "(LBundleHouse$Instruction;)Z" } : Jvm.MethodName) prog_5_method_23_code (1 : Nat) (Option.some Jvm.ClassFile.FieldType.boolean)) ∈ GT := gt_of (ts_5 (List.mem_of_getElem? (i := 136) rfl)) rfl
theorem g_5_137 : (Jvm.Cond.methodLink "BundleHouse$Machine" (137 : Nat) ({ cls := "BundleHouse$Machine", name := "give", desc := "(II)V" } : Jvm.MethodName)) ∈ GT := gt_of (ts_5 (List.mem_of_getElem? (i := 137) rfl)) rfl
theorem g_5_138 : (Jvm.Cond.methodLink "BundleHouse$Machine" (143 : Nat) ({ cls := "BundleHouse$Machine", name := "push", desc := "(I)V" } : Jvm.MethodName)) ∈ GT := gt_of (ts_5 (List.mem_of_getElem? (i := 138) rfl)) rfl
theorem g_5_139 : (Jvm.Cond.methodLink "BundleHouse$Machine" (146 : Nat) ({ cls := "BundleHouse$Machine", name := "pop", desc := "()I" } : Jvm.MethodName)) ∈ GT := gt_of (ts_5 (List.mem_of_getElem? (i := 139) rfl)) rfl
theorem g_5_140 : (Jvm.Cond.methodLink "BundleHouse$Machine" (150 : Nat) ({ cls := "BundleHouse$Machine", name := "leftOf", desc := "(LBundleHouse$Instruction;I)I" } : Jvm.MethodName)) ∈ GT := gt_of (ts_5 (List.mem_of_getElem? (i := 140) rfl)) rfl
theorem g_5_142 : (Jvm.Cond.instanceMethod ({ cls := "BundleHouse$Machine", name := "leftOf", desc := "(LBundleHouse$Instruction;I)I" } : Jvm.MethodName)) ∈ GT := gt_of (ts_5 (List.mem_of_getElem? (i := 142) rfl)) rfl
theorem g_5_143 : (Jvm.Cond.code ({ cls := "BundleHouse$Machine", name := "leftOf", desc := "(LBundleHouse$Instruction;I)I" } : Jvm.MethodName) prog_5_method_24_code (3 : Nat) (Option.some Jvm.ClassFile.FieldType.int)) ∈ GT := gt_of (ts_5 (List.mem_of_getElem? (i := 143) rfl)) rfl
theorem g_5_144 : (Jvm.Cond.methodLink "BundleHouse$Machine" (153 : Nat) ({ cls := "BundleHouse$Flags", name := "reckon", desc := "(III)I" } : Jvm.MethodName)) ∈ GT := gt_of (ts_5 (List.mem_of_getElem? (i := 144) rfl)) rfl
theorem g_5_145 : (Jvm.Cond.instanceMethod ({ cls := "BundleHouse$Flags", name := "reckon", desc := "(III)I" } : Jvm.MethodName)) ∈ GT := gt_of (ts_5 (List.mem_of_getElem? (i := 145) rfl)) rfl
theorem g_5_146 : (Jvm.Cond.selects "BundleHouse$Flags" ({ cls := "BundleHouse$Flags", name := "reckon", desc := "(III)I" } : Jvm.MethodName) ({ cls := "BundleHouse$Flags", name := "reckon", desc := "(III)I" } : Jvm.MethodName)) ∈ GT := gt_of (ts_5 (List.mem_of_getElem? (i := 146) rfl)) rfl
theorem g_5_147 : (Jvm.Cond.code ({ cls := "BundleHouse$Flags", name := "reckon", desc := "(III)I" } : Jvm.MethodName) prog_3_method_3_code (6 : Nat) (Option.some Jvm.ClassFile.FieldType.int)) ∈ GT := gt_of (ts_5 (List.mem_of_getElem? (i := 147) rfl)) rfl
theorem g_5_148 : (Jvm.Cond.methodLink "BundleHouse$Flags" (24 : Nat) ({ cls := "BundleHouse$Flags", name := "sum", desc := "(III)I" } : Jvm.MethodName)) ∈ GT := gt_of (ts_5 (List.mem_of_getElem? (i := 148) rfl)) rfl
theorem g_5_150 : (Jvm.Cond.instanceMethod ({ cls := "BundleHouse$Flags", name := "sum", desc := "(III)I" } : Jvm.MethodName)) ∈ GT := gt_of (ts_5 (List.mem_of_getElem? (i := 150) rfl)) rfl
theorem g_5_151 : (Jvm.Cond.code ({ cls := "BundleHouse$Flags", name := "sum", desc := "(III)I" } : Jvm.MethodName) prog_3_method_4_code (4 : Nat) (Option.some Jvm.ClassFile.FieldType.int)) ∈ GT := gt_of (ts_5 (List.mem_of_getElem? (i := 151) rfl)) rfl
theorem g_5_152 : (Jvm.Cond.constantLong "BundleHouse$Flags" (41 : Nat) (4294967295 : Int64)) ∈ GT := gt_of (ts_5 (List.mem_of_getElem? (i := 152) rfl)) rfl
theorem g_5_153 : (Jvm.Cond.methodLink "BundleHouse$Flags" (43 : Nat) ({ cls := "BundleHouse$Flags", name := "narrowed", desc := "(J)I" } : Jvm.MethodName)) ∈ GT := gt_of (ts_5 (List.mem_of_getElem? (i := 153) rfl)) rfl
theorem g_5_155 : (Jvm.Cond.instanceMethod ({ cls := "BundleHouse$Flags", name := "narrowed", desc := "(J)I" } : Jvm.MethodName)) ∈ GT := gt_of (ts_5 (List.mem_of_getElem? (i := 155) rfl)) rfl
theorem g_5_156 : (Jvm.Cond.code ({ cls := "BundleHouse$Flags", name := "narrowed", desc := "(J)I" } : Jvm.MethodName) prog_3_method_7_code (3 : Nat) (Option.some Jvm.ClassFile.FieldType.int)) ∈ GT := gt_of (ts_5 (List.mem_of_getElem? (i := 156) rfl)) rfl
theorem g_5_157 : (Jvm.Cond.methodLink "BundleHouse$Flags" (28 : Nat) ({ cls := "BundleHouse$Flags", name := "difference", desc := "(III)I" } : Jvm.MethodName)) ∈ GT := gt_of (ts_5 (List.mem_of_getElem? (i := 157) rfl)) rfl
theorem g_5_159 : (Jvm.Cond.instanceMethod ({ cls := "BundleHouse$Flags", name := "difference", desc := "(III)I" } : Jvm.MethodName)) ∈ GT := gt_of (ts_5 (List.mem_of_getElem? (i := 159) rfl)) rfl
theorem g_5_160 : (Jvm.Cond.code ({ cls := "BundleHouse$Flags", name := "difference", desc := "(III)I" } : Jvm.MethodName) prog_3_method_5_code (4 : Nat) (Option.some Jvm.ClassFile.FieldType.int)) ∈ GT := gt_of (ts_5 (List.mem_of_getElem? (i := 160) rfl)) rfl
theorem g_5_161 : (Jvm.Cond.methodLink "BundleHouse$Flags" (31 : Nat) ({ cls := "BundleHouse$Flags", name := "product", desc := "(II)I" } : Jvm.MethodName)) ∈ GT := gt_of (ts_5 (List.mem_of_getElem? (i := 161) rfl)) rfl
theorem g_5_163 : (Jvm.Cond.instanceMethod ({ cls := "BundleHouse$Flags", name := "product", desc := "(II)I" } : Jvm.MethodName)) ∈ GT := gt_of (ts_5 (List.mem_of_getElem? (i := 163) rfl)) rfl
theorem g_5_164 : (Jvm.Cond.code ({ cls := "BundleHouse$Flags", name := "product", desc := "(II)I" } : Jvm.MethodName) prog_3_method_6_code (4 : Nat) (Option.some Jvm.ClassFile.FieldType.int)) ∈ GT := gt_of (ts_5 (List.mem_of_getElem? (i := 164) rfl)) rfl
theorem g_5_165 : (Jvm.Cond.methodLink "BundleHouse$Flags" (35 : Nat) ({ cls := "BundleHouse$Flags", name := "shifted", desc := "(III)I" } : Jvm.MethodName)) ∈ GT := gt_of (ts_5 (List.mem_of_getElem? (i := 165) rfl)) rfl
theorem g_5_167 : (Jvm.Cond.instanceMethod ({ cls := "BundleHouse$Flags", name := "shifted", desc := "(III)I" } : Jvm.MethodName)) ∈ GT := gt_of (ts_5 (List.mem_of_getElem? (i := 167) rfl)) rfl
theorem g_5_168 : (Jvm.Cond.code ({ cls := "BundleHouse$Flags", name := "shifted", desc := "(III)I" } : Jvm.MethodName) prog_3_method_9_code (5 : Nat) (Option.some Jvm.ClassFile.FieldType.int)) ∈ GT := gt_of (ts_5 (List.mem_of_getElem? (i := 168) rfl)) rfl
theorem g_5_169 : (Jvm.Cond.methodLink "BundleHouse$Flags" (38 : Nat) ({ cls := "BundleHouse$Flags", name := "logic", desc := "(III)I" } : Jvm.MethodName)) ∈ GT := gt_of (ts_5 (List.mem_of_getElem? (i := 169) rfl)) rfl
theorem g_5_171 : (Jvm.Cond.instanceMethod ({ cls := "BundleHouse$Flags", name := "logic", desc := "(III)I" } : Jvm.MethodName)) ∈ GT := gt_of (ts_5 (List.mem_of_getElem? (i := 171) rfl)) rfl
theorem g_5_172 : (Jvm.Cond.code ({ cls := "BundleHouse$Flags", name := "logic", desc := "(III)I" } : Jvm.MethodName) prog_3_method_8_code (4 : Nat) (Option.some Jvm.ClassFile.FieldType.int)) ∈ GT := gt_of (ts_5 (List.mem_of_getElem? (i := 172) rfl)) rfl
theorem g_5_173 : (Jvm.Cond.methodLink "BundleHouse$Runner" (93 : Nat) ({ cls := "BundleHouse$Strip", name := "markAt", desc := "(I)I" } : Jvm.MethodName)) ∈ GT := gt_of (ts_5 (List.mem_of_getElem? (i := 173) rfl)) rfl
theorem g_5_183 : (Jvm.Cond.instanceMethod ({ cls := "BundleHouse$Walker", name := "goOn", desc := "(I)I" } : Jvm.MethodName)) ∈ GT := gt_of (ts_5 (List.mem_of_getElem? (i := 183) rfl)) rfl
theorem g_5_184 : (Jvm.Cond.selects "BundleHouse$Walker" ({ cls := "BundleHouse$Walker", name := "goOn", desc := "(I)I" } : Jvm.MethodName) ({ cls := "BundleHouse$Walker", name := "goOn", desc := "(I)I" } : Jvm.MethodName)) ∈ GT := gt_of (ts_5 (List.mem_of_getElem? (i := 184) rfl)) rfl
theorem g_5_185 : (Jvm.Cond.code ({ cls := "BundleHouse$Walker", name := "goOn", desc := "(I)I" } : Jvm.MethodName) prog_12_method_2_code (4 : Nat) (Option.some Jvm.ClassFile.FieldType.int)) ∈ GT := gt_of (ts_5 (List.mem_of_getElem? (i := 185) rfl)) rfl
theorem g_5_186 : (Jvm.Cond.methodLink "BundleHouse$Walker" (26 : Nat) ({ cls := "BundleHouse$Program", name := "pastLabels", desc := "(I)I" } : Jvm.MethodName)) ∈ GT := gt_of (ts_5 (List.mem_of_getElem? (i := 186) rfl)) rfl
theorem g_5_187 : (Jvm.Cond.instanceMethod ({ cls := "BundleHouse$Program", name := "pastLabels", desc := "(I)I" } : Jvm.MethodName)) ∈ GT := gt_of (ts_5 (List.mem_of_getElem? (i := 187) rfl)) rfl
theorem g_5_188 : (Jvm.Cond.selects "BundleHouse$Program" ({ cls := "BundleHouse$Program", name := "pastLabels", desc := "(I)I" } : Jvm.MethodName) ({ cls := "BundleHouse$Program", name := "pastLabels", desc := "(I)I" } : Jvm.MethodName)) ∈ GT := gt_of (ts_5 (List.mem_of_getElem? (i := 188) rfl)) rfl
theorem g_5_189 : (Jvm.Cond.code ({ cls := "BundleHouse$Program", name := "pastLabels", desc := "(I)I" } : Jvm.MethodName) prog_8_method_16_code (3 : Nat) (Option.some Jvm.ClassFile.FieldType.int)) ∈ GT := gt_of (ts_5 (List.mem_of_getElem? (i := 189) rfl)) rfl
theorem g_5_190 : (Jvm.Cond.methodLink "BundleHouse$Program" (95 : Nat) ({ cls := "java/lang/Math", name := "max", desc := "(II)I" } : Jvm.MethodName)) ∈ GT := gt_of (ts_5 (List.mem_of_getElem? (i := 190) rfl)) rfl
theorem g_5_191 : (Jvm.Cond.methodLink "BundleHouse$Walker" (36 : Nat) ({ cls := "BundleHouse$Walker", name := "serve", desc := "(I)I" } : Jvm.MethodName)) ∈ GT := gt_of (ts_5 (List.mem_of_getElem? (i := 191) rfl)) rfl
theorem g_5_193 : (Jvm.Cond.instanceMethod ({ cls := "BundleHouse$Walker", name := "serve", desc := "(I)I" } : Jvm.MethodName)) ∈ GT := gt_of (ts_5 (List.mem_of_getElem? (i := 193) rfl)) rfl
theorem g_5_194 : (Jvm.Cond.code ({ cls := "BundleHouse$Walker", name := "serve", desc := "(I)I" } : Jvm.MethodName) prog_12_method_5_code (3 : Nat) (Option.some Jvm.ClassFile.FieldType.int)) ∈ GT := gt_of (ts_5 (List.mem_of_getElem? (i := 194) rfl)) rfl
theorem g_5_195 : (Jvm.Cond.methodLink "BundleHouse$Walker" (43 : Nat) ({ cls := "BundleHouse$Walker", name := "standStill", desc := "(I)I" } : Jvm.MethodName)) ∈ GT := gt_of (ts_5 (List.mem_of_getElem? (i := 195) rfl)) rfl
theorem g_5_197 : (Jvm.Cond.instanceMethod ({ cls := "BundleHouse$Walker", name := "standStill", desc := "(I)I" } : Jvm.MethodName)) ∈ GT := gt_of (ts_5 (List.mem_of_getElem? (i := 197) rfl)) rfl
theorem g_5_198 : (Jvm.Cond.code ({ cls := "BundleHouse$Walker", name := "standStill", desc := "(I)I" } : Jvm.MethodName) prog_12_method_4_code (2 : Nat) (Option.some Jvm.ClassFile.FieldType.int)) ∈ GT := gt_of (ts_5 (List.mem_of_getElem? (i := 198) rfl)) rfl
theorem g_5_199 : (Jvm.Cond.methodLink "BundleHouse$Walker" (78 : Nat) ({ cls := "BundleHouse$Machine", name := "canPop", desc := "()Z" } : Jvm.MethodName)) ∈ GT := gt_of (ts_5 (List.mem_of_getElem? (i := 199) rfl)) rfl
theorem g_5_200 : (Jvm.Cond.methodLink "BundleHouse$Walker" (82 : Nat) ({ cls := "BundleHouse$Machine", name := "registerAt", desc := "(I)I" } : Jvm.MethodName)) ∈ GT := gt_of (ts_5 (List.mem_of_getElem? (i := 200) rfl)) rfl
theorem g_5_201 : (Jvm.Cond.methodLink "BundleHouse$Walker" (85 : Nat) ({ cls := "BundleHouse$Machine", name := "wordAt", desc := "(I)I" } : Jvm.MethodName)) ∈ GT := gt_of (ts_5 (List.mem_of_getElem? (i := 201) rfl)) rfl
theorem g_5_202 : (Jvm.Cond.methodLink "BundleHouse$Walker" (88 : Nat) ({ cls := "BundleHouse$Program", name := "landingAt", desc := "(I)I" } : Jvm.MethodName)) ∈ GT := gt_of (ts_5 (List.mem_of_getElem? (i := 202) rfl)) rfl
theorem g_5_203 : (Jvm.Cond.instanceMethod ({ cls := "BundleHouse$Program", name := "landingAt", desc := "(I)I" } : Jvm.MethodName)) ∈ GT := gt_of (ts_5 (List.mem_of_getElem? (i := 203) rfl)) rfl
theorem g_5_204 : (Jvm.Cond.selects "BundleHouse$Program" ({ cls := "BundleHouse$Program", name := "landingAt", desc := "(I)I" } : Jvm.MethodName) ({ cls := "BundleHouse$Program", name := "landingAt", desc := "(I)I" } : Jvm.MethodName)) ∈ GT := gt_of (ts_5 (List.mem_of_getElem? (i := 204) rfl)) rfl
theorem g_5_205 : (Jvm.Cond.code ({ cls := "BundleHouse$Program", name := "landingAt", desc := "(I)I" } : Jvm.MethodName) prog_8_method_15_code (3 : Nat) (Option.some Jvm.ClassFile.FieldType.int)) ∈ GT := gt_of (ts_5 (List.mem_of_getElem? (i := 205) rfl)) rfl
theorem g_5_207 : (Jvm.Cond.methodLink "BundleHouse$Walker" (91 : Nat) ({ cls := "BundleHouse$Machine", name := "isFullFor", desc := "(I)Z" } : Jvm.MethodName)) ∈ GT := gt_of (ts_5 (List.mem_of_getElem? (i := 207) rfl)) rfl
theorem g_5_208 : (Jvm.Cond.methodLink "BundleHouse$Walker" (94 : Nat) ({ cls := "BundleHouse$Machine", name := "serve", desc := "(I)V" } : Jvm.MethodName)) ∈ GT := gt_of (ts_5 (List.mem_of_getElem? (i := 208) rfl)) rfl
theorem g_5_209 : (Jvm.Cond.methodLink "BundleHouse$Walker" (97 : Nat) ({ cls := "BundleHouse$Machine", name := "pop", desc := "()I" } : Jvm.MethodName)) ∈ GT := gt_of (ts_5 (List.mem_of_getElem? (i := 209) rfl)) rfl
theorem g_5_210 : (Jvm.Cond.methodLink "BundleHouse$Walker" (100 : Nat) ({ cls := "BundleHouse$Walker", name := "goTo", desc := "(I)I" } : Jvm.MethodName)) ∈ GT := gt_of (ts_5 (List.mem_of_getElem? (i := 210) rfl)) rfl
theorem g_5_212 : (Jvm.Cond.instanceMethod ({ cls := "BundleHouse$Walker", name := "goTo", desc := "(I)I" } : Jvm.MethodName)) ∈ GT := gt_of (ts_5 (List.mem_of_getElem? (i := 212) rfl)) rfl
theorem g_5_213 : (Jvm.Cond.code ({ cls := "BundleHouse$Walker", name := "goTo", desc := "(I)I" } : Jvm.MethodName) prog_12_method_3_code (2 : Nat) (Option.some Jvm.ClassFile.FieldType.int)) ∈ GT := gt_of (ts_5 (List.mem_of_getElem? (i := 213) rfl)) rfl
theorem g_5_214 : (Jvm.Cond.methodLink "BundleHouse$Walker" (39 : Nat) ({ cls := "BundleHouse$Program", name := "hasItem", desc := "(I)Z" } : Jvm.MethodName)) ∈ GT := gt_of (ts_5 (List.mem_of_getElem? (i := 214) rfl)) rfl
theorem g_5_215 : (Jvm.Cond.methodLink "BundleHouse$Walker" (50 : Nat) ({ cls := "BundleHouse$Walker", name := "stepPlain", desc := "()I" } : Jvm.MethodName)) ∈ GT := gt_of (ts_5 (List.mem_of_getElem? (i := 215) rfl)) rfl
theorem g_5_217 : (Jvm.Cond.instanceMethod ({ cls := "BundleHouse$Walker", name := "stepPlain", desc := "()I" } : Jvm.MethodName)) ∈ GT := gt_of (ts_5 (List.mem_of_getElem? (i := 217) rfl)) rfl
theorem g_5_218 : (Jvm.Cond.code ({ cls := "BundleHouse$Walker", name := "stepPlain", desc := "()I" } : Jvm.MethodName) prog_12_method_7_code (2 : Nat) (Option.some Jvm.ClassFile.FieldType.int)) ∈ GT := gt_of (ts_5 (List.mem_of_getElem? (i := 218) rfl)) rfl
theorem g_5_219 : (Jvm.Cond.methodLink "BundleHouse$Walker" (132 : Nat) ({ cls := "BundleHouse$Program", name := "loadItem", desc := "(ILBundleHouse$Instruction;)V" } : Jvm.MethodName)) ∈ GT := gt_of (ts_5 (List.mem_of_getElem? (i := 219) rfl)) rfl
theorem g_5_220 : (Jvm.Cond.methodLink "BundleHouse$Walker" (139 : Nat) ({ cls := "BundleHouse$Machine", name := "perform", desc := "(LBundleHouse$Instruction;)I" } : Jvm.MethodName)) ∈ GT := gt_of (ts_5 (List.mem_of_getElem? (i := 220) rfl)) rfl
theorem g_5_221 : (Jvm.Cond.methodLink "BundleHouse$Walker" (60 : Nat) ({ cls := "BundleHouse$Walker", name := "stepFlow", desc := "(III)I" } : Jvm.MethodName)) ∈ GT := gt_of (ts_5 (List.mem_of_getElem? (i := 221) rfl)) rfl
theorem g_5_223 : (Jvm.Cond.instanceMethod ({ cls := "BundleHouse$Walker", name := "stepFlow", desc := "(III)I" } : Jvm.MethodName)) ∈ GT := gt_of (ts_5 (List.mem_of_getElem? (i := 223) rfl)) rfl
theorem g_5_224 : (Jvm.Cond.code ({ cls := "BundleHouse$Walker", name := "stepFlow", desc := "(III)I" } : Jvm.MethodName) prog_12_method_6_code (4 : Nat) (Option.some Jvm.ClassFile.FieldType.int)) ∈ GT := gt_of (ts_5 (List.mem_of_getElem? (i := 224) rfl)) rfl
theorem g_5_225 : (Jvm.Cond.methodLink "BundleHouse$Walker" (103 : Nat) ({ cls := "BundleHouse$Program", name := "labelItem", desc := "(I)I" } : Jvm.MethodName)) ∈ GT := gt_of (ts_5 (List.mem_of_getElem? (i := 225) rfl)) rfl
theorem g_5_226 : (Jvm.Cond.methodLink "BundleHouse$Walker" (110 : Nat) ({ cls := "BundleHouse$Flags", name := "isUnknownTo", desc := "(I)Z" } : Jvm.MethodName)) ∈ GT := gt_of (ts_5 (List.mem_of_getElem? (i := 226) rfl)) rfl
theorem g_5_227 : (Jvm.Cond.instanceMethod ({ cls := "BundleHouse$Flags", name := "isUnknownTo", desc := "(I)Z" } : Jvm.MethodName)) ∈ GT := gt_of (ts_5 (List.mem_of_getElem? (i := 227) rfl)) rfl
theorem g_5_228 : (Jvm.Cond.selects "BundleHouse$Flags" ({ cls := "BundleHouse$Flags", name := "isUnknownTo", desc := "(I)Z" } : Jvm.MethodName) ({ cls := "BundleHouse$Flags", name := "isUnknownTo", desc := "(I)Z" } : Jvm.MethodName)) ∈ GT := gt_of (ts_5 (List.mem_of_getElem? (i := 228) rfl)) rfl
theorem g_5_229 : (Jvm.Cond.code ({ cls := "BundleHouse$Flags", name := "isUnknownTo", desc := "(I)Z" } : Jvm.MethodName) prog_3_method_10_code (2 : Nat) (Option.some Jvm.ClassFile.FieldType.boolean)) ∈ GT := gt_of (ts_5 (List.mem_of_getElem? (i := 229) rfl)) rfl
theorem g_5_230 : (Jvm.Cond.methodLink "BundleHouse$Walker" (115 : Nat) ({ cls := "BundleHouse$Flags", name := "holds", desc := "(I)Z" } : Jvm.MethodName)) ∈ GT := gt_of (ts_5 (List.mem_of_getElem? (i := 230) rfl)) rfl
theorem g_5_231 : (Jvm.Cond.methodLink "BundleHouse$Walker" (118 : Nat) ({ cls := "BundleHouse$Walker", name := "callTo", desc := "(I)I" } : Jvm.MethodName)) ∈ GT := gt_of (ts_5 (List.mem_of_getElem? (i := 231) rfl)) rfl
theorem g_5_233 : (Jvm.Cond.instanceMethod ({ cls := "BundleHouse$Walker", name := "callTo", desc := "(I)I" } : Jvm.MethodName)) ∈ GT := gt_of (ts_5 (List.mem_of_getElem? (i := 233) rfl)) rfl
theorem g_5_234 : (Jvm.Cond.code ({ cls := "BundleHouse$Walker", name := "callTo", desc := "(I)I" } : Jvm.MethodName) prog_12_method_9_code (2 : Nat) (Option.some Jvm.ClassFile.FieldType.int)) ∈ GT := gt_of (ts_5 (List.mem_of_getElem? (i := 234) rfl)) rfl
theorem g_5_235 : (Jvm.Cond.methodLink "BundleHouse$Walker" (143 : Nat) ({ cls := "BundleHouse$Machine", name := "canPush", desc := "()Z" } : Jvm.MethodName)) ∈ GT := gt_of (ts_5 (List.mem_of_getElem? (i := 235) rfl)) rfl
theorem g_5_236 : (Jvm.Cond.methodLink "BundleHouse$Walker" (146 : Nat) ({ cls := "BundleHouse$Walker", name := "addressBehind", desc := "()I" } : Jvm.MethodName)) ∈ GT := gt_of (ts_5 (List.mem_of_getElem? (i := 236) rfl)) rfl
theorem g_5_238 : (Jvm.Cond.instanceMethod ({ cls := "BundleHouse$Walker", name := "addressBehind", desc := "()I" } : Jvm.MethodName)) ∈ GT := gt_of (ts_5 (List.mem_of_getElem? (i := 238) rfl)) rfl
theorem g_5_239 : (Jvm.Cond.code ({ cls := "BundleHouse$Walker", name := "addressBehind", desc := "()I" } : Jvm.MethodName) prog_12_method_8_code (1 : Nat) (Option.some Jvm.ClassFile.FieldType.int)) ∈ GT := gt_of (ts_5 (List.mem_of_getElem? (i := 239) rfl)) rfl
theorem g_5_40 : (Jvm.Cond.instanceMethod ({ cls := "BundleHouse$Machine", name := "beginAs", desc := "(LBundleHouse$Machine;)V" } : Jvm.MethodName)) ∈ GT := gt_of (ts_5 (List.mem_of_getElem? (i := 40) rfl)) rfl
theorem g_5_41 : (Jvm.Cond.selects "BundleHouse$Machine" ({ cls := "BundleHouse$Machine", name := "beginAs", desc := "(LBundleHouse$Machine;)V" } : Jvm.MethodName) ({ cls := "BundleHouse$Machine", name := "beginAs", desc := "(LBundleHouse$Machine;)V" } : Jvm.MethodName)) ∈ GT := gt_of (ts_5 (List.mem_of_getElem? (i := 41) rfl)) rfl
theorem g_5_42 : (Jvm.Cond.code ({ cls := "BundleHouse$Machine", name := "beginAs", desc := "(LBundleHouse$Machine;)V" } : Jvm.MethodName) prog_5_method_3_code (2 : Nat) (Option.none : Option Jvm.ClassFile.FieldType)) ∈ GT := gt_of (ts_5 (List.mem_of_getElem? (i := 42) rfl)) rfl
theorem g_5_43 : (Jvm.Cond.methodLink "BundleHouse$Machine" (35 : Nat) ({ cls := "java/lang/System", name := "arraycopy", desc := "(Ljava/lang/Object;ILjava/lang/Object;II)V" } : Jvm.MethodName)) ∈ GT := gt_of (ts_5 (List.mem_of_getElem? (i := 43) rfl)) rfl
theorem g_5_44 : (Jvm.Cond.methodLink "BundleHouse$Machine" (47 : Nat) ({ cls := "BundleHouse$Flags", name := "setAll", desc := "(I)V" } : Jvm.MethodName)) ∈ GT := gt_of (ts_5 (List.mem_of_getElem? (i := 44) rfl)) rfl
theorem g_5_45 : (Jvm.Cond.instanceMethod ({ cls := "BundleHouse$Flags", name := "setAll", desc := "(I)V" } : Jvm.MethodName)) ∈ GT := gt_of (ts_5 (List.mem_of_getElem? (i := 45) rfl)) rfl
theorem g_5_46 : (Jvm.Cond.selects "BundleHouse$Flags" ({ cls := "BundleHouse$Flags", name := "setAll", desc := "(I)V" } : Jvm.MethodName) ({ cls := "BundleHouse$Flags", name := "setAll", desc := "(I)V" } : Jvm.MethodName)) ∈ GT := gt_of (ts_5 (List.mem_of_getElem? (i := 46) rfl)) rfl
theorem g_5_47 : (Jvm.Cond.code ({ cls := "BundleHouse$Flags", name := "setAll", desc := "(I)V" } : Jvm.MethodName) prog_3_method_2_code (2 : Nat) (Option.none : Option Jvm.ClassFile.FieldType)) ∈ GT := gt_of (ts_5 (List.mem_of_getElem? (i := 47) rfl)) rfl
theorem g_5_49 : (Jvm.Cond.instanceMethod ({ cls := "BundleHouse$Runner", name := "goOn", desc := "(I)I" } : Jvm.MethodName)) ∈ GT := gt_of (ts_5 (List.mem_of_getElem? (i := 49) rfl)) rfl
theorem g_5_50 : (Jvm.Cond.selects "BundleHouse$Runner" ({ cls := "BundleHouse$Runner", name := "goOn", desc := "(I)I" } : Jvm.MethodName) ({ cls := "BundleHouse$Runner", name := "goOn", desc := "(I)I" } : Jvm.MethodName)) ∈ GT := gt_of (ts_5 (List.mem_of_getElem? (i := 50) rfl)) rfl
theorem g_5_51 : (Jvm.Cond.code ({ cls := "BundleHouse$Runner", name := "goOn", desc := "(I)I" } : Jvm.MethodName) prog_10_method_2_code (4 : Nat) (Option.some Jvm.ClassFile.FieldType.int)) ∈ GT := gt_of (ts_5 (List.mem_of_getElem? (i := 51) rfl)) rfl
theorem g_5_53 : (Jvm.Cond.methodLink "BundleHouse$Runner" (33 : Nat) ({ cls := "BundleHouse$Runner", name := "serve", desc := "(I)I" } : Jvm.MethodName)) ∈ GT := gt_of (ts_5 (List.mem_of_getElem? (i := 53) rfl)) rfl
theorem g_5_55 : (Jvm.Cond.instanceMethod ({ cls := "BundleHouse$Runner", name := "serve", desc := "(I)I" } : Jvm.MethodName)) ∈ GT := gt_of (ts_5 (List.mem_of_getElem? (i := 55) rfl)) rfl
theorem g_5_56 : (Jvm.Cond.code ({ cls := "BundleHouse$Runner", name := "serve", desc := "(I)I" } : Jvm.MethodName) prog_10_method_3_code (2 : Nat) (Option.some Jvm.ClassFile.FieldType.int)) ∈ GT := gt_of (ts_5 (List.mem_of_getElem? (i := 56) rfl)) rfl
theorem g_5_57 : (Jvm.Cond.methodLink "BundleHouse$Runner" (46 : Nat) ({ cls := "BundleHouse$Machine", name := "canPop", desc := "()Z" } : Jvm.MethodName)) ∈ GT := gt_of (ts_5 (List.mem_of_getElem? (i := 57) rfl)) rfl
theorem g_5_58 : (Jvm.Cond.instanceMethod ({ cls := "BundleHouse$Machine", name := "canPop", desc := "()Z" } : Jvm.MethodName)) ∈ GT := gt_of (ts_5 (List.mem_of_getElem? (i := 58) rfl)) rfl
theorem g_5_59 : (Jvm.Cond.selects "BundleHouse$Machine" ({ cls := "BundleHouse$Machine", name := "canPop", desc := "()Z" } : Jvm.MethodName) ({ cls := "BundleHouse$Machine", name := "canPop", desc := "()Z" } : Jvm.MethodName)) ∈ GT := gt_of (ts_5 (List.mem_of_getElem? (i := 59) rfl)) rfl
theorem g_5_60 : (Jvm.Cond.code ({ cls := "BundleHouse$Machine", name := "canPop", desc := "()Z" } : Jvm.MethodName) prog_5_method_14_code (1 : Nat) (Option.some Jvm.ClassFile.FieldType.boolean)) ∈ GT := gt_of (ts_5 (List.mem_of_getElem? (i := 60) rfl)) rfl
theorem g_5_61 : (Jvm.Cond.methodLink "BundleHouse$Runner" (50 : Nat) ({ cls := "BundleHouse$Machine", name := "isFullFor", desc := "(I)Z" } : Jvm.MethodName)) ∈ GT := gt_of (ts_5 (List.mem_of_getElem? (i := 61) rfl)) rfl
theorem g_5_62 : (Jvm.Cond.instanceMethod ({ cls := "BundleHouse$Machine", name := "isFullFor", desc := "(I)Z" } : Jvm.MethodName)) ∈ GT := gt_of (ts_5 (List.mem_of_getElem? (i := 62) rfl)) rfl
theorem g_5_63 : (Jvm.Cond.selects "BundleHouse$Machine" ({ cls := "BundleHouse$Machine", name := "isFullFor", desc := "(I)Z" } : Jvm.MethodName) ({ cls := "BundleHouse$Machine", name := "isFullFor", desc := "(I)Z" } : Jvm.MethodName)) ∈ GT := gt_of (ts_5 (List.mem_of_getElem? (i := 63) rfl)) rfl
theorem g_5_64 : (Jvm.Cond.code ({ cls := "BundleHouse$Machine", name := "isFullFor", desc := "(I)Z" } : Jvm.MethodName) prog_5_method_17_code (2 : Nat) (Option.some Jvm.ClassFile.FieldType.boolean)) ∈ GT := gt_of (ts_5 (List.mem_of_getElem? (i := 64) rfl)) rfl
theorem g_5_65 : (Jvm.Cond.methodLink "BundleHouse$Runner" (53 : Nat) ({ cls := "BundleHouse$Machine", name := "serve", desc := "(I)V" } : Jvm.MethodName)) ∈ GT := gt_of (ts_5 (List.mem_of_getElem? (i := 65) rfl)) rfl
theorem g_5_66 : (Jvm.Cond.instanceMethod ({ cls := "BundleHouse$Machine", name := "serve", desc := "(I)V" } : Jvm.MethodName)) ∈ GT := gt_of (ts_5 (List.mem_of_getElem? (i := 66) rfl)) rfl
theorem g_5_67 : (Jvm.Cond.selects "BundleHouse$Machine" ({ cls := "BundleHouse$Machine", name := "serve", desc := "(I)V" } : Jvm.MethodName) ({ cls := "BundleHouse$Machine", name := "serve", desc := "(I)V" } : Jvm.MethodName)) ∈ GT := gt_of (ts_5 (List.mem_of_getElem? (i := 67) rfl)) rfl
theorem g_5_68 : (Jvm.Cond.code ({ cls := "BundleHouse$Machine", name := "serve", desc := "(I)V" } : Jvm.MethodName) prog_5_method_18_code (3 : Nat) (Option.none : Option Jvm.ClassFile.FieldType)) ∈ GT := gt_of (ts_5 (List.mem_of_getElem? (i := 68) rfl)) rfl
theorem g_5_69 : (Jvm.Cond.methodLink "BundleHouse$Runner" (56 : Nat) ({ cls := "BundleHouse$Machine", name := "pop", desc := "()I" } : Jvm.MethodName)) ∈ GT := gt_of (ts_5 (List.mem_of_getElem? (i := 69) rfl)) rfl
theorem g_5_70 : (Jvm.Cond.instanceMethod ({ cls := "BundleHouse$Machine", name := "pop", desc := "()I" } : Jvm.MethodName)) ∈ GT := gt_of (ts_5 (List.mem_of_getElem? (i := 70) rfl)) rfl
theorem g_5_71 : (Jvm.Cond.selects "BundleHouse$Machine" ({ cls := "BundleHouse$Machine", name := "pop", desc := "()I" } : Jvm.MethodName) ({ cls := "BundleHouse$Machine", name := "pop", desc := "()I" } : Jvm.MethodName)) ∈ GT := gt_of (ts_5 (List.mem_of_getElem? (i := 71) rfl)) rfl
theorem g_5_72 : (Jvm.Cond.code ({ cls := "BundleHouse$Machine", name := "pop", desc := "()I" } : Jvm.MethodName) prog_5_method_16_code (2 : Nat) (Option.some Jvm.ClassFile.FieldType.int)) ∈ GT := gt_of (ts_5 (List.mem_of_getElem? (i := 72) rfl)) rfl
theorem g_5_73 : (Jvm.Cond.methodLink "BundleHouse$Machine" (100 : Nat) ({ cls := "BundleHouse$Machine", name := "wordAt", desc := "(I)I" } : Jvm.MethodName)) ∈ GT := gt_of (ts_5 (List.mem_of_getElem? (i := 73) rfl)) rfl
theorem g_5_74 : (Jvm.Cond.instanceMethod ({ cls := "BundleHouse$Machine", name := "wordAt", desc := "(I)I" } : Jvm.MethodName)) ∈ GT := gt_of (ts_5 (List.mem_of_getElem? (i := 74) rfl)) rfl
theorem g_5_75 : (Jvm.Cond.selects "BundleHouse$Machine" ({ cls := "BundleHouse$Machine", name := "wordAt", desc := "(I)I" } : Jvm.MethodName) ({ cls := "BundleHouse$Machine", name := "wordAt", desc := "(I)I" } : Jvm.MethodName)) ∈ GT := gt_of (ts_5 (List.mem_of_getElem? (i := 75) rfl)) rfl
theorem g_5_76 : (Jvm.Cond.code ({ cls := "BundleHouse$Machine", name := "wordAt", desc := "(I)I" } : Jvm.MethodName) prog_5_method_11_code (2 : Nat) (Option.some Jvm.ClassFile.FieldType.int)) ∈ GT := gt_of (ts_5 (List.mem_of_getElem? (i := 76) rfl)) rfl
theorem g_5_77 : (Jvm.Cond.methodLink "BundleHouse$Runner" (37 : Nat) ({ cls := "BundleHouse$Runner", name := "step", desc := "(I)I" } : Jvm.MethodName)) ∈ GT := gt_of (ts_5 (List.mem_of_getElem? (i := 77) rfl)) rfl
theorem g_5_79 : (Jvm.Cond.instanceMethod ({ cls := "BundleHouse$Runner", name := "step", desc := "(I)I" } : Jvm.MethodName)) ∈ GT := gt_of (ts_5 (List.mem_of_getElem? (i := 79) rfl)) rfl
theorem g_5_80 : (Jvm.Cond.code ({ cls := "BundleHouse$Runner", name := "step", desc := "(I)I" } : Jvm.MethodName) prog_10_method_4_code (6 : Nat) (Option.some Jvm.ClassFile.FieldType.int)) ∈ GT := gt_of (ts_5 (List.mem_of_getElem? (i := 80) rfl)) rfl
theorem g_5_81 : (Jvm.Cond.methodLink "BundleHouse$Runner" (65 : Nat) ({ cls := "BundleHouse$Reader", name := "read", desc := "(I)Z" } : Jvm.MethodName)) ∈ GT := gt_of (ts_5 (List.mem_of_getElem? (i := 81) rfl)) rfl
theorem g_5_82 : (Jvm.Cond.methodLink "BundleHouse$Runner" (82 : Nat) ({ cls := "BundleHouse$Runner", name := "turnOff", desc := "(LBundleHouse$Instruction;I)I" } : Jvm.MethodName)) ∈ GT := gt_of (ts_5 (List.mem_of_getElem? (i := 82) rfl)) rfl
theorem g_5_84 : (Jvm.Cond.instanceMethod ({ cls := "BundleHouse$Runner", name := "turnOff", desc := "(LBundleHouse$Instruction;I)I" } : Jvm.MethodName)) ∈ GT := gt_of (ts_5 (List.mem_of_getElem? (i := 84) rfl)) rfl
theorem g_5_85 : (Jvm.Cond.code ({ cls := "BundleHouse$Runner", name := "turnOff", desc := "(LBundleHouse$Instruction;I)I" } : Jvm.MethodName) prog_10_method_5_code (6 : Nat) (Option.some Jvm.ClassFile.FieldType.int)) ∈ GT := gt_of (ts_5 (List.mem_of_getElem? (i := 85) rfl)) rfl
theorem g_5_86 : (Jvm.Cond.methodLink "BundleHouse$Runner" (96 : Nat) ({ cls := "BundleHouse$Machine", name := "canPush", desc := "()Z" } : Jvm.MethodName)) ∈ GT := gt_of (ts_5 (List.mem_of_getElem? (i := 86) rfl)) rfl
theorem g_5_87 : (Jvm.Cond.instanceMethod ({ cls := "BundleHouse$Machine", name := "canPush", desc := "()Z" } : Jvm.MethodName)) ∈ GT := gt_of (ts_5 (List.mem_of_getElem? (i := 87) rfl)) rfl
theorem g_5_88 : (Jvm.Cond.selects "BundleHouse$Machine" ({ cls := "BundleHouse$Machine", name := "canPush", desc := "()Z" } : Jvm.MethodName) ({ cls := "BundleHouse$Machine", name := "canPush", desc := "()Z" } : Jvm.MethodName)) ∈ GT := gt_of (ts_5 (List.mem_of_getElem? (i := 88) rfl)) rfl
theorem g_5_89 : (Jvm.Cond.code ({ cls := "BundleHouse$Machine", name := "canPush", desc := "()Z" } : Jvm.MethodName) prog_5_method_13_code (1 : Nat) (Option.some Jvm.ClassFile.FieldType.boolean)) ∈ GT := gt_of (ts_5 (List.mem_of_getElem? (i := 89) rfl)) rfl
theorem g_5_90 : (Jvm.Cond.methodLink "BundleHouse$Runner" (108 : Nat) ({ cls := "BundleHouse$Machine", name := "registerAt", desc := "(I)I" } : Jvm.MethodName)) ∈ GT := gt_of (ts_5 (List.mem_of_getElem? (i := 90) rfl)) rfl
theorem g_5_91 : (Jvm.Cond.instanceMethod ({ cls := "BundleHouse$Machine", name := "registerAt", desc := "(I)I" } : Jvm.MethodName)) ∈ GT := gt_of (ts_5 (List.mem_of_getElem? (i := 91) rfl)) rfl
theorem g_5_92 : (Jvm.Cond.selects "BundleHouse$Machine" ({ cls := "BundleHouse$Machine", name := "registerAt", desc := "(I)I" } : Jvm.MethodName) ({ cls := "BundleHouse$Machine", name := "registerAt", desc := "(I)I" } : Jvm.MethodName)) ∈ GT := gt_of (ts_5 (List.mem_of_getElem? (i := 92) rfl)) rfl
theorem g_5_93 : (Jvm.Cond.code ({ cls := "BundleHouse$Machine", name := "registerAt", desc := "(I)I" } : Jvm.MethodName) prog_5_method_9_code (2 : Nat) (Option.some Jvm.ClassFile.FieldType.int)) ∈ GT := gt_of (ts_5 (List.mem_of_getElem? (i := 93) rfl)) rfl
theorem g_5_94 : (Jvm.Cond.methodLink "BundleHouse$Runner" (111 : Nat) ({ cls := "BundleHouse$Machine", name := "push", desc := "(I)V" } : Jvm.MethodName)) ∈ GT := gt_of (ts_5 (List.mem_of_getElem? (i := 94) rfl)) rfl
theorem g_5_95 : (Jvm.Cond.instanceMethod ({ cls := "BundleHouse$Machine", name := "push", desc := "(I)V" } : Jvm.MethodName)) ∈ GT := gt_of (ts_5 (List.mem_of_getElem? (i := 95) rfl)) rfl
theorem g_5_96 : (Jvm.Cond.selects "BundleHouse$Machine" ({ cls := "BundleHouse$Machine", name := "push", desc := "(I)V" } : Jvm.MethodName) ({ cls := "BundleHouse$Machine", name := "push", desc := "(I)V" } : Jvm.MethodName)) ∈ GT := gt_of (ts_5 (List.mem_of_getElem? (i := 96) rfl)) rfl
theorem g_5_97 : (Jvm.Cond.code ({ cls := "BundleHouse$Machine", name := "push", desc := "(I)V" } : Jvm.MethodName) prog_5_method_15_code (2 : Nat) (Option.none : Option Jvm.ClassFile.FieldType)) ∈ GT := gt_of (ts_5 (List.mem_of_getElem? (i := 97) rfl)) rfl
theorem g_5_98 : (Jvm.Cond.methodLink "BundleHouse$Machine" (96 : Nat) ({ cls := "BundleHouse$Machine", name := "giveWord", desc := "(II)V" } : Jvm.MethodName)) ∈ GT := gt_of (ts_5 (List.mem_of_getElem? (i := 98) rfl)) rfl
theorem g_5_99 : (Jvm.Cond.methodLink "BundleHouse$Runner" (118 : Nat) ({ cls := "BundleHouse$Flags", name := "holds", desc := "(I)Z" } : Jvm.MethodName)) ∈ GT := gt_of (ts_5 (List.mem_of_getElem? (i := 99) rfl)) rfl
theorem g_6_0 : (Jvm.Cond.methodLink "BundleHouse$Walker" (64 : Nat) ({ cls := "BundleHouse$Program", name := "addressOf", desc := "(I)I" } : Jvm.MethodName)) ∈ GT := gt_of (ts_6 (List.mem_of_getElem? (i := 0) rfl)) rfl
theorem g_6_1 : (Jvm.Cond.instanceMethod ({ cls := "BundleHouse$Program", name := "addressOf", desc := "(I)I" } : Jvm.MethodName)) ∈ GT := gt_of (ts_6 (List.mem_of_getElem? (i := 1) rfl)) rfl
theorem g_6_10 : (Jvm.Cond.methodLink "BundleHouse$Walker" (125 : Nat) ({ cls := "BundleHouse$Walker", name := "goBack", desc := "()I" } : Jvm.MethodName)) ∈ GT := gt_of (ts_6 (List.mem_of_getElem? (i := 10) rfl)) rfl
theorem g_6_100 : (Jvm.Cond.fieldLink "BundleHouseModel" (141 : Nat) "BundleHouseModel" "dD" "I") ∈ GT := gt_of (ts_6 (List.mem_of_getElem? (i := 100) rfl)) rfl
theorem g_6_101 : (Jvm.Cond.fieldLink "BundleHouseModel" (160 : Nat) "BundleHouseModel" "dI" "I") ∈ GT := gt_of (ts_6 (List.mem_of_getElem? (i := 101) rfl)) rfl
theorem g_6_102 : (Jvm.Cond.fieldLink "BundleHouseModel" (125 : Nat) "BundleHouseModel" "kOf" "I") ∈ GT := gt_of (ts_6 (List.mem_of_getElem? (i := 102) rfl)) rfl
theorem g_6_103 : (Jvm.Cond.fieldLink "BundleHouseModel" (128 : Nat) "BundleHouseModel" "isMemory" "Z") ∈ GT := gt_of (ts_6 (List.mem_of_getElem? (i := 103) rfl)) rfl
theorem g_6_104 : (Jvm.Cond.fieldLink "BundleHouseModel" (102 : Nat) "BundleHouseModel" "tried" "[I") ∈ GT := gt_of (ts_6 (List.mem_of_getElem? (i := 104) rfl)) rfl
theorem g_6_105 : (Jvm.Cond.fieldLink "BundleHouseModel" (303 : Nat) "BundleHouseModel" "endPlace" "I") ∈ GT := gt_of (ts_6 (List.mem_of_getElem? (i := 105) rfl)) rfl
theorem g_6_106 : (Jvm.Cond.fieldLink "BundleHouseModel" (353 : Nat) "BundleHouseModel" "nOp" "I") ∈ GT := gt_of (ts_6 (List.mem_of_getElem? (i := 106) rfl)) rfl
theorem g_6_107 : (Jvm.Cond.fieldLink "BundleHouseModel" (350 : Nat) "BundleHouseModel" "nForm" "I") ∈ GT := gt_of (ts_6 (List.mem_of_getElem? (i := 107) rfl)) rfl
theorem g_6_108 : (Jvm.Cond.fieldLink "BundleHouseModel" (384 : Nat) "BundleHouseModel" "nR" "I") ∈ GT := gt_of (ts_6 (List.mem_of_getElem? (i := 108) rfl)) rfl
theorem g_6_109 : (Jvm.Cond.fieldLink "BundleHouseModel" (362 : Nat) "BundleHouseModel" "nX" "I") ∈ GT := gt_of (ts_6 (List.mem_of_getElem? (i := 109) rfl)) rfl
theorem g_6_110 : (Jvm.Cond.fieldLink "BundleHouseModel" (365 : Nat) "BundleHouseModel" "nD" "I") ∈ GT := gt_of (ts_6 (List.mem_of_getElem? (i := 110) rfl)) rfl
theorem g_6_111 : (Jvm.Cond.fieldLink "BundleHouseModel" (381 : Nat) "BundleHouseModel" "nI" "I") ∈ GT := gt_of (ts_6 (List.mem_of_getElem? (i := 111) rfl)) rfl
theorem g_6_112 : (Jvm.Cond.fieldLink "BundleHouseModel" (421 : Nat) "BundleHouseModel" "walker" "I") ∈ GT := gt_of (ts_6 (List.mem_of_getElem? (i := 112) rfl)) rfl
theorem g_6_113 : (Jvm.Cond.lays "BundleHouseModel" "BundleHouseModel" "thrown" "I") ∈ GT := gt_of (ts_6 (List.mem_of_getElem? (i := 113) rfl)) rfl
theorem g_6_115 : (Jvm.Cond.laysFinal "BundleHouseModel" "BundleHouseModel" "tape" "[I") ∈ GT := gt_of (ts_6 (List.mem_of_getElem? (i := 115) rfl)) rfl
theorem g_6_117 : (Jvm.Cond.lays "BundleHouseModel" "BundleHouseModel" "taped" "I") ∈ GT := gt_of (ts_6 (List.mem_of_getElem? (i := 117) rfl)) rfl
theorem g_6_119 : (Jvm.Cond.lays "BundleHouseModel" "BundleHouseModel" "fault" "I") ∈ GT := gt_of (ts_6 (List.mem_of_getElem? (i := 119) rfl)) rfl
theorem g_6_12 : (Jvm.Cond.instanceMethod ({ cls := "BundleHouse$Walker", name := "goBack", desc := "()I" } : Jvm.MethodName)) ∈ GT := gt_of (ts_6 (List.mem_of_getElem? (i := 12) rfl)) rfl
theorem g_6_121 : (Jvm.Cond.lays "BundleHouseModel" "BundleHouseModel" "faultAt" "I") ∈ GT := gt_of (ts_6 (List.mem_of_getElem? (i := 121) rfl)) rfl
theorem g_6_123 : (Jvm.Cond.laysFinal "BundleHouseModel" "BundleHouseModel" "code" "[I") ∈ GT := gt_of (ts_6 (List.mem_of_getElem? (i := 123) rfl)) rfl
theorem g_6_125 : (Jvm.Cond.lays "BundleHouseModel" "BundleHouseModel" "size" "I") ∈ GT := gt_of (ts_6 (List.mem_of_getElem? (i := 125) rfl)) rfl
theorem g_6_127 : (Jvm.Cond.laysFinal "BundleHouseModel" "BundleHouseModel" "starts" "[I") ∈ GT := gt_of (ts_6 (List.mem_of_getElem? (i := 127) rfl)) rfl
theorem g_6_129 : (Jvm.Cond.lays "BundleHouseModel" "BundleHouseModel" "drafted" "I") ∈ GT := gt_of (ts_6 (List.mem_of_getElem? (i := 129) rfl)) rfl
theorem g_6_13 : (Jvm.Cond.code ({ cls := "BundleHouse$Walker", name := "goBack", desc := "()I" } : Jvm.MethodName) prog_12_method_11_code (2 : Nat) (Option.some Jvm.ClassFile.FieldType.int)) ∈ GT := gt_of (ts_6 (List.mem_of_getElem? (i := 13) rfl)) rfl
theorem g_6_131 : (Jvm.Cond.lays "BundleHouseModel" "BundleHouseModel" "many" "I") ∈ GT := gt_of (ts_6 (List.mem_of_getElem? (i := 131) rfl)) rfl
theorem g_6_133 : (Jvm.Cond.lays "BundleHouseModel" "BundleHouseModel" "isProgram" "Z") ∈ GT := gt_of (ts_6 (List.mem_of_getElem? (i := 133) rfl)) rfl
theorem g_6_135 : (Jvm.Cond.laysFinal "BundleHouseModel" "BundleHouseModel" "sort" "[I") ∈ GT := gt_of (ts_6 (List.mem_of_getElem? (i := 135) rfl)) rfl
theorem g_6_137 : (Jvm.Cond.laysFinal "BundleHouseModel" "BundleHouseModel" "op" "[I") ∈ GT := gt_of (ts_6 (List.mem_of_getElem? (i := 137) rfl)) rfl
theorem g_6_139 : (Jvm.Cond.laysFinal "BundleHouseModel" "BundleHouseModel" "form" "[I") ∈ GT := gt_of (ts_6 (List.mem_of_getElem? (i := 139) rfl)) rfl
theorem g_6_14 : (Jvm.Cond.methodLink "BundleHouse$Walker" (128 : Nat) ({ cls := "BundleHouse$Machine", name := "give", desc := "(II)V" } : Jvm.MethodName)) ∈ GT := gt_of (ts_6 (List.mem_of_getElem? (i := 14) rfl)) rfl
theorem g_6_141 : (Jvm.Cond.laysFinal "BundleHouseModel" "BundleHouseModel" "itemR" "[I") ∈ GT := gt_of (ts_6 (List.mem_of_getElem? (i := 141) rfl)) rfl
theorem g_6_143 : (Jvm.Cond.laysFinal "BundleHouseModel" "BundleHouseModel" "itemX" "[I") ∈ GT := gt_of (ts_6 (List.mem_of_getElem? (i := 143) rfl)) rfl
theorem g_6_145 : (Jvm.Cond.laysFinal "BundleHouseModel" "BundleHouseModel" "itemD" "[I") ∈ GT := gt_of (ts_6 (List.mem_of_getElem? (i := 145) rfl)) rfl
theorem g_6_147 : (Jvm.Cond.laysFinal "BundleHouseModel" "BundleHouseModel" "itemI" "[I") ∈ GT := gt_of (ts_6 (List.mem_of_getElem? (i := 147) rfl)) rfl
theorem g_6_149 : (Jvm.Cond.laysFinal "BundleHouseModel" "BundleHouseModel" "placeOf" "[I") ∈ GT := gt_of (ts_6 (List.mem_of_getElem? (i := 149) rfl)) rfl
theorem g_6_151 : (Jvm.Cond.laysFinal "BundleHouseModel" "BundleHouseModel" "labelPlace" "[I") ∈ GT := gt_of (ts_6 (List.mem_of_getElem? (i := 151) rfl)) rfl
theorem g_6_153 : (Jvm.Cond.laysFinal "BundleHouseModel" "BundleHouseModel" "labelItem" "[I") ∈ GT := gt_of (ts_6 (List.mem_of_getElem? (i := 153) rfl)) rfl
theorem g_6_155 : (Jvm.Cond.laysFinal "BundleHouseModel" "BundleHouseModel" "isLong" "[Z") ∈ GT := gt_of (ts_6 (List.mem_of_getElem? (i := 155) rfl)) rfl
theorem g_6_157 : (Jvm.Cond.lays "BundleHouseModel" "BundleHouseModel" "laid" "I") ∈ GT := gt_of (ts_6 (List.mem_of_getElem? (i := 157) rfl)) rfl
theorem g_6_159 : (Jvm.Cond.laysFinal "BundleHouseModel" "BundleHouseModel" "built" "[I") ∈ GT := gt_of (ts_6 (List.mem_of_getElem? (i := 159) rfl)) rfl
theorem g_6_161 : (Jvm.Cond.laysFinal "BundleHouseModel" "BundleHouseModel" "bytes" "[I") ∈ GT := gt_of (ts_6 (List.mem_of_getElem? (i := 161) rfl)) rfl
theorem g_6_163 : (Jvm.Cond.lays "BundleHouseModel" "BundleHouseModel" "byteMany" "I") ∈ GT := gt_of (ts_6 (List.mem_of_getElem? (i := 163) rfl)) rfl
theorem g_6_165 : (Jvm.Cond.laysFinal "BundleHouseModel" "BundleHouseModel" "firstRegister" "[I") ∈ GT := gt_of (ts_6 (List.mem_of_getElem? (i := 165) rfl)) rfl
theorem g_6_167 : (Jvm.Cond.laysFinal "BundleHouseModel" "BundleHouseModel" "firstData" "[I") ∈ GT := gt_of (ts_6 (List.mem_of_getElem? (i := 167) rfl)) rfl
theorem g_6_169 : (Jvm.Cond.laysFinal "BundleHouseModel" "BundleHouseModel" "input" "[I") ∈ GT := gt_of (ts_6 (List.mem_of_getElem? (i := 169) rfl)) rfl
theorem g_6_171 : (Jvm.Cond.lays "BundleHouseModel" "BundleHouseModel" "inputs" "I") ∈ GT := gt_of (ts_6 (List.mem_of_getElem? (i := 171) rfl)) rfl
theorem g_6_173 : (Jvm.Cond.laysFinal "BundleHouseModel" "BundleHouseModel" "ran" "[Z") ∈ GT := gt_of (ts_6 (List.mem_of_getElem? (i := 173) rfl)) rfl
theorem g_6_175 : (Jvm.Cond.laysFinal "BundleHouseModel" "BundleHouseModel" "register" "[I") ∈ GT := gt_of (ts_6 (List.mem_of_getElem? (i := 175) rfl)) rfl
theorem g_6_177 : (Jvm.Cond.laysFinal "BundleHouseModel" "BundleHouseModel" "flag" "[I") ∈ GT := gt_of (ts_6 (List.mem_of_getElem? (i := 177) rfl)) rfl
theorem g_6_179 : (Jvm.Cond.laysFinal "BundleHouseModel" "BundleHouseModel" "memory" "[I") ∈ GT := gt_of (ts_6 (List.mem_of_getElem? (i := 179) rfl)) rfl
theorem g_6_181 : (Jvm.Cond.laysFinal "BundleHouseModel" "BundleHouseModel" "output" "[I") ∈ GT := gt_of (ts_6 (List.mem_of_getElem? (i := 181) rfl)) rfl
theorem g_6_183 : (Jvm.Cond.laysFinal "BundleHouseModel" "BundleHouseModel" "outputs" "[I") ∈ GT := gt_of (ts_6 (List.mem_of_getElem? (i := 183) rfl)) rfl
theorem g_6_185 : (Jvm.Cond.laysFinal "BundleHouseModel" "BundleHouseModel" "address" "[I") ∈ GT := gt_of (ts_6 (List.mem_of_getElem? (i := 185) rfl)) rfl
theorem g_6_187 : (Jvm.Cond.laysFinal "BundleHouseModel" "BundleHouseModel" "steps" "[I") ∈ GT := gt_of (ts_6 (List.mem_of_getElem? (i := 187) rfl)) rfl
theorem g_6_189 : (Jvm.Cond.laysFinal "BundleHouseModel" "BundleHouseModel" "stop" "[I") ∈ GT := gt_of (ts_6 (List.mem_of_getElem? (i := 189) rfl)) rfl
theorem g_6_191 : (Jvm.Cond.lays "BundleHouseModel" "BundleHouseModel" "strange" "I") ∈ GT := gt_of (ts_6 (List.mem_of_getElem? (i := 191) rfl)) rfl
theorem g_6_193 : (Jvm.Cond.lays "BundleHouseModel" "BundleHouseModel" "oneUnknown" "Z") ∈ GT := gt_of (ts_6 (List.mem_of_getElem? (i := 193) rfl)) rfl
theorem g_6_195 : (Jvm.Cond.lays "BundleHouseModel" "BundleHouseModel" "inputTaken" "I") ∈ GT := gt_of (ts_6 (List.mem_of_getElem? (i := 195) rfl)) rfl
theorem g_6_197 : (Jvm.Cond.lays "BundleHouseModel" "BundleHouseModel" "which" "I") ∈ GT := gt_of (ts_6 (List.mem_of_getElem? (i := 197) rfl)) rfl
theorem g_6_199 : (Jvm.Cond.lays "BundleHouseModel" "BundleHouseModel" "from" "[I") ∈ GT := gt_of (ts_6 (List.mem_of_getElem? (i := 199) rfl)) rfl
theorem g_6_2 : (Jvm.Cond.selects "BundleHouse$Program" ({ cls := "BundleHouse$Program", name := "addressOf", desc := "(I)I" } : Jvm.MethodName) ({ cls := "BundleHouse$Program", name := "addressOf", desc := "(I)I" } : Jvm.MethodName)) ∈ GT := gt_of (ts_6 (List.mem_of_getElem? (i := 2) rfl)) rfl
theorem g_6_201 : (Jvm.Cond.lays "BundleHouseModel" "BundleHouseModel" "limit" "I") ∈ GT := gt_of (ts_6 (List.mem_of_getElem? (i := 201) rfl)) rfl
theorem g_6_203 : (Jvm.Cond.lays "BundleHouseModel" "BundleHouseModel" "at" "I") ∈ GT := gt_of (ts_6 (List.mem_of_getElem? (i := 203) rfl)) rfl
theorem g_6_205 : (Jvm.Cond.lays "BundleHouseModel" "BundleHouseModel" "dOp" "I") ∈ GT := gt_of (ts_6 (List.mem_of_getElem? (i := 205) rfl)) rfl
theorem g_6_207 : (Jvm.Cond.lays "BundleHouseModel" "BundleHouseModel" "dForm" "I") ∈ GT := gt_of (ts_6 (List.mem_of_getElem? (i := 207) rfl)) rfl
theorem g_6_209 : (Jvm.Cond.lays "BundleHouseModel" "BundleHouseModel" "dR" "I") ∈ GT := gt_of (ts_6 (List.mem_of_getElem? (i := 209) rfl)) rfl
theorem g_6_211 : (Jvm.Cond.lays "BundleHouseModel" "BundleHouseModel" "dX" "I") ∈ GT := gt_of (ts_6 (List.mem_of_getElem? (i := 211) rfl)) rfl
theorem g_6_213 : (Jvm.Cond.lays "BundleHouseModel" "BundleHouseModel" "dD" "I") ∈ GT := gt_of (ts_6 (List.mem_of_getElem? (i := 213) rfl)) rfl
theorem g_6_215 : (Jvm.Cond.lays "BundleHouseModel" "BundleHouseModel" "dI" "I") ∈ GT := gt_of (ts_6 (List.mem_of_getElem? (i := 215) rfl)) rfl
theorem g_6_217 : (Jvm.Cond.lays "BundleHouseModel" "BundleHouseModel" "kOf" "I") ∈ GT := gt_of (ts_6 (List.mem_of_getElem? (i := 217) rfl)) rfl
theorem g_6_219 : (Jvm.Cond.lays "BundleHouseModel" "BundleHouseModel" "isMemory" "Z") ∈ GT := gt_of (ts_6 (List.mem_of_getElem? (i := 219) rfl)) rfl
theorem g_6_221 : (Jvm.Cond.laysFinal "BundleHouseModel" "BundleHouseModel" "tried" "[I") ∈ GT := gt_of (ts_6 (List.mem_of_getElem? (i := 221) rfl)) rfl
theorem g_6_223 : (Jvm.Cond.lays "BundleHouseModel" "BundleHouseModel" "endPlace" "I") ∈ GT := gt_of (ts_6 (List.mem_of_getElem? (i := 223) rfl)) rfl
theorem g_6_225 : (Jvm.Cond.lays "BundleHouseModel" "BundleHouseModel" "nOp" "I") ∈ GT := gt_of (ts_6 (List.mem_of_getElem? (i := 225) rfl)) rfl
theorem g_6_227 : (Jvm.Cond.lays "BundleHouseModel" "BundleHouseModel" "nForm" "I") ∈ GT := gt_of (ts_6 (List.mem_of_getElem? (i := 227) rfl)) rfl
theorem g_6_229 : (Jvm.Cond.lays "BundleHouseModel" "BundleHouseModel" "nR" "I") ∈ GT := gt_of (ts_6 (List.mem_of_getElem? (i := 229) rfl)) rfl
theorem g_6_231 : (Jvm.Cond.lays "BundleHouseModel" "BundleHouseModel" "nX" "I") ∈ GT := gt_of (ts_6 (List.mem_of_getElem? (i := 231) rfl)) rfl
theorem g_6_233 : (Jvm.Cond.lays "BundleHouseModel" "BundleHouseModel" "nD" "I") ∈ GT := gt_of (ts_6 (List.mem_of_getElem? (i := 233) rfl)) rfl
theorem g_6_235 : (Jvm.Cond.lays "BundleHouseModel" "BundleHouseModel" "nI" "I") ∈ GT := gt_of (ts_6 (List.mem_of_getElem? (i := 235) rfl)) rfl
theorem g_6_237 : (Jvm.Cond.lays "BundleHouseModel" "BundleHouseModel" "walker" "I") ∈ GT := gt_of (ts_6 (List.mem_of_getElem? (i := 237) rfl)) rfl
theorem g_6_24 : (Jvm.Cond.instanceMethod ({ cls := "BundleHouse$Machine", name := "part", desc := "(I)I" } : Jvm.MethodName)) ∈ GT := gt_of (ts_6 (List.mem_of_getElem? (i := 24) rfl)) rfl
theorem g_6_25 : (Jvm.Cond.selects "BundleHouse$Machine" ({ cls := "BundleHouse$Machine", name := "part", desc := "(I)I" } : Jvm.MethodName) ({ cls := "BundleHouse$Machine", name := "part", desc := "(I)I" } : Jvm.MethodName)) ∈ GT := gt_of (ts_6 (List.mem_of_getElem? (i := 25) rfl)) rfl
theorem g_6_26 : (Jvm.Cond.code ({ cls := "BundleHouse$Machine", name := "part", desc := "(I)I" } : Jvm.MethodName) prog_5_method_5_code (2 : Nat) (Option.some Jvm.ClassFile.FieldType.int)) ∈ GT := gt_of (ts_6 (List.mem_of_getElem? (i := 26) rfl)) rfl
theorem g_6_3 : (Jvm.Cond.code ({ cls := "BundleHouse$Program", name := "addressOf", desc := "(I)I" } : Jvm.MethodName) prog_8_method_17_code (2 : Nat) (Option.some Jvm.ClassFile.FieldType.int)) ∈ GT := gt_of (ts_6 (List.mem_of_getElem? (i := 3) rfl)) rfl
theorem g_6_35 : (Jvm.Cond.instanceMethod ({ cls := "BundleHouse$Machine", name := "hasOutput", desc := "(I)Z" } : Jvm.MethodName)) ∈ GT := gt_of (ts_6 (List.mem_of_getElem? (i := 35) rfl)) rfl
theorem g_6_36 : (Jvm.Cond.selects "BundleHouse$Machine" ({ cls := "BundleHouse$Machine", name := "hasOutput", desc := "(I)Z" } : Jvm.MethodName) ({ cls := "BundleHouse$Machine", name := "hasOutput", desc := "(I)Z" } : Jvm.MethodName)) ∈ GT := gt_of (ts_6 (List.mem_of_getElem? (i := 36) rfl)) rfl
theorem g_6_37 : (Jvm.Cond.code ({ cls := "BundleHouse$Machine", name := "hasOutput", desc := "(I)Z" } : Jvm.MethodName) prog_5_method_7_code (2 : Nat) (Option.some Jvm.ClassFile.FieldType.boolean)) ∈ GT := gt_of (ts_6 (List.mem_of_getElem? (i := 37) rfl)) rfl
theorem g_6_4 : (Jvm.Cond.methodLink "BundleHouse$Walker" (149 : Nat) ({ cls := "BundleHouse$Machine", name := "push", desc := "(I)V" } : Jvm.MethodName)) ∈ GT := gt_of (ts_6 (List.mem_of_getElem? (i := 4) rfl)) rfl
theorem g_6_40 : (Jvm.Cond.instanceMethod ({ cls := "BundleHouse$Machine", name := "outputAt", desc := "(I)I" } : Jvm.MethodName)) ∈ GT := gt_of (ts_6 (List.mem_of_getElem? (i := 40) rfl)) rfl
theorem g_6_41 : (Jvm.Cond.selects "BundleHouse$Machine" ({ cls := "BundleHouse$Machine", name := "outputAt", desc := "(I)I" } : Jvm.MethodName) ({ cls := "BundleHouse$Machine", name := "outputAt", desc := "(I)I" } : Jvm.MethodName)) ∈ GT := gt_of (ts_6 (List.mem_of_getElem? (i := 41) rfl)) rfl
theorem g_6_42 : (Jvm.Cond.code ({ cls := "BundleHouse$Machine", name := "outputAt", desc := "(I)I" } : Jvm.MethodName) prog_5_method_8_code (2 : Nat) (Option.some Jvm.ClassFile.FieldType.int)) ∈ GT := gt_of (ts_6 (List.mem_of_getElem? (i := 42) rfl)) rfl
theorem g_6_43 : (Jvm.Cond.methodLink "BundleHouse$Machine" (86 : Nat) ({ cls := "BundleHouse$Machine", name := "hasOutput", desc := "(I)Z" } : Jvm.MethodName)) ∈ GT := gt_of (ts_6 (List.mem_of_getElem? (i := 43) rfl)) rfl
theorem g_6_5 : (Jvm.Cond.methodLink "BundleHouse$Walker" (121 : Nat) ({ cls := "BundleHouse$Walker", name := "goByRegister", desc := "(IZ)I" } : Jvm.MethodName)) ∈ GT := gt_of (ts_6 (List.mem_of_getElem? (i := 5) rfl)) rfl
theorem g_6_50 : (Jvm.Cond.fieldLink "BundleHouseModel" (105 : Nat) "BundleHouseModel" "thrown" "I") ∈ GT := gt_of (ts_6 (List.mem_of_getElem? (i := 50) rfl)) rfl
theorem g_6_51 : (Jvm.Cond.fieldLink "BundleHouseModel" (7 : Nat) "BundleHouseModel" "tape" "[I") ∈ GT := gt_of (ts_6 (List.mem_of_getElem? (i := 51) rfl)) rfl
theorem g_6_52 : (Jvm.Cond.fieldLink "BundleHouseModel" (108 : Nat) "BundleHouseModel" "taped" "I") ∈ GT := gt_of (ts_6 (List.mem_of_getElem? (i := 52) rfl)) rfl
theorem g_6_53 : (Jvm.Cond.fieldLink "BundleHouseModel" (181 : Nat) "BundleHouseModel" "fault" "I") ∈ GT := gt_of (ts_6 (List.mem_of_getElem? (i := 53) rfl)) rfl
theorem g_6_54 : (Jvm.Cond.fieldLink "BundleHouseModel" (13 : Nat) "BundleHouseModel" "faultAt" "I") ∈ GT := gt_of (ts_6 (List.mem_of_getElem? (i := 54) rfl)) rfl
theorem g_6_55 : (Jvm.Cond.fieldLink "BundleHouseModel" (17 : Nat) "BundleHouseModel" "code" "[I") ∈ GT := gt_of (ts_6 (List.mem_of_getElem? (i := 55) rfl)) rfl
theorem g_6_56 : (Jvm.Cond.fieldLink "BundleHouseModel" (205 : Nat) "BundleHouseModel" "size" "I") ∈ GT := gt_of (ts_6 (List.mem_of_getElem? (i := 56) rfl)) rfl
theorem g_6_57 : (Jvm.Cond.fieldLink "BundleHouseModel" (20 : Nat) "BundleHouseModel" "starts" "[I") ∈ GT := gt_of (ts_6 (List.mem_of_getElem? (i := 57) rfl)) rfl
theorem g_6_58 : (Jvm.Cond.fieldLink "BundleHouseModel" (208 : Nat) "BundleHouseModel" "drafted" "I") ∈ GT := gt_of (ts_6 (List.mem_of_getElem? (i := 58) rfl)) rfl
theorem g_6_59 : (Jvm.Cond.fieldLink "BundleHouseModel" (300 : Nat) "BundleHouseModel" "many" "I") ∈ GT := gt_of (ts_6 (List.mem_of_getElem? (i := 59) rfl)) rfl
theorem g_6_60 : (Jvm.Cond.fieldLink "BundleHouseModel" (202 : Nat) "BundleHouseModel" "isProgram" "Z") ∈ GT := gt_of (ts_6 (List.mem_of_getElem? (i := 60) rfl)) rfl
theorem g_6_61 : (Jvm.Cond.fieldLink "BundleHouseModel" (23 : Nat) "BundleHouseModel" "sort" "[I") ∈ GT := gt_of (ts_6 (List.mem_of_getElem? (i := 61) rfl)) rfl
theorem g_6_62 : (Jvm.Cond.fieldLink "BundleHouseModel" (26 : Nat) "BundleHouseModel" "op" "[I") ∈ GT := gt_of (ts_6 (List.mem_of_getElem? (i := 62) rfl)) rfl
theorem g_6_63 : (Jvm.Cond.fieldLink "BundleHouseModel" (29 : Nat) "BundleHouseModel" "form" "[I") ∈ GT := gt_of (ts_6 (List.mem_of_getElem? (i := 63) rfl)) rfl
theorem g_6_64 : (Jvm.Cond.fieldLink "BundleHouseModel" (32 : Nat) "BundleHouseModel" "itemR" "[I") ∈ GT := gt_of (ts_6 (List.mem_of_getElem? (i := 64) rfl)) rfl
theorem g_6_65 : (Jvm.Cond.fieldLink "BundleHouseModel" (35 : Nat) "BundleHouseModel" "itemX" "[I") ∈ GT := gt_of (ts_6 (List.mem_of_getElem? (i := 65) rfl)) rfl
theorem g_6_66 : (Jvm.Cond.fieldLink "BundleHouseModel" (38 : Nat) "BundleHouseModel" "itemD" "[I") ∈ GT := gt_of (ts_6 (List.mem_of_getElem? (i := 66) rfl)) rfl
theorem g_6_67 : (Jvm.Cond.fieldLink "BundleHouseModel" (41 : Nat) "BundleHouseModel" "itemI" "[I") ∈ GT := gt_of (ts_6 (List.mem_of_getElem? (i := 67) rfl)) rfl
theorem g_6_68 : (Jvm.Cond.fieldLink "BundleHouseModel" (44 : Nat) "BundleHouseModel" "placeOf" "[I") ∈ GT := gt_of (ts_6 (List.mem_of_getElem? (i := 68) rfl)) rfl
theorem g_6_69 : (Jvm.Cond.fieldLink "BundleHouseModel" (47 : Nat) "BundleHouseModel" "labelPlace" "[I") ∈ GT := gt_of (ts_6 (List.mem_of_getElem? (i := 69) rfl)) rfl
theorem g_6_7 : (Jvm.Cond.instanceMethod ({ cls := "BundleHouse$Walker", name := "goByRegister", desc := "(IZ)I" } : Jvm.MethodName)) ∈ GT := gt_of (ts_6 (List.mem_of_getElem? (i := 7) rfl)) rfl
theorem g_6_70 : (Jvm.Cond.fieldLink "BundleHouseModel" (50 : Nat) "BundleHouseModel" "labelItem" "[I") ∈ GT := gt_of (ts_6 (List.mem_of_getElem? (i := 70) rfl)) rfl
theorem g_6_71 : (Jvm.Cond.fieldLink "BundleHouseModel" (53 : Nat) "BundleHouseModel" "isLong" "[Z") ∈ GT := gt_of (ts_6 (List.mem_of_getElem? (i := 71) rfl)) rfl
theorem g_6_72 : (Jvm.Cond.fieldLink "BundleHouseModel" (257 : Nat) "BundleHouseModel" "laid" "I") ∈ GT := gt_of (ts_6 (List.mem_of_getElem? (i := 72) rfl)) rfl
theorem g_6_73 : (Jvm.Cond.fieldLink "BundleHouseModel" (57 : Nat) "BundleHouseModel" "built" "[I") ∈ GT := gt_of (ts_6 (List.mem_of_getElem? (i := 73) rfl)) rfl
theorem g_6_74 : (Jvm.Cond.fieldLink "BundleHouseModel" (60 : Nat) "BundleHouseModel" "bytes" "[I") ∈ GT := gt_of (ts_6 (List.mem_of_getElem? (i := 74) rfl)) rfl
theorem g_6_75 : (Jvm.Cond.fieldLink "BundleHouseModel" (229 : Nat) "BundleHouseModel" "byteMany" "I") ∈ GT := gt_of (ts_6 (List.mem_of_getElem? (i := 75) rfl)) rfl
theorem g_6_76 : (Jvm.Cond.fieldLink "BundleHouseModel" (63 : Nat) "BundleHouseModel" "firstRegister" "[I") ∈ GT := gt_of (ts_6 (List.mem_of_getElem? (i := 76) rfl)) rfl
theorem g_6_77 : (Jvm.Cond.fieldLink "BundleHouseModel" (66 : Nat) "BundleHouseModel" "firstData" "[I") ∈ GT := gt_of (ts_6 (List.mem_of_getElem? (i := 77) rfl)) rfl
theorem g_6_78 : (Jvm.Cond.fieldLink "BundleHouseModel" (69 : Nat) "BundleHouseModel" "input" "[I") ∈ GT := gt_of (ts_6 (List.mem_of_getElem? (i := 78) rfl)) rfl
theorem g_6_79 : (Jvm.Cond.fieldLink "BundleHouseModel" (310 : Nat) "BundleHouseModel" "inputs" "I") ∈ GT := gt_of (ts_6 (List.mem_of_getElem? (i := 79) rfl)) rfl
theorem g_6_8 : (Jvm.Cond.code ({ cls := "BundleHouse$Walker", name := "goByRegister", desc := "(IZ)I" } : Jvm.MethodName) prog_12_method_10_code (4 : Nat) (Option.some Jvm.ClassFile.FieldType.int)) ∈ GT := gt_of (ts_6 (List.mem_of_getElem? (i := 8) rfl)) rfl
theorem g_6_80 : (Jvm.Cond.fieldLink "BundleHouseModel" (72 : Nat) "BundleHouseModel" "ran" "[Z") ∈ GT := gt_of (ts_6 (List.mem_of_getElem? (i := 80) rfl)) rfl
theorem g_6_81 : (Jvm.Cond.fieldLink "BundleHouseModel" (75 : Nat) "BundleHouseModel" "register" "[I") ∈ GT := gt_of (ts_6 (List.mem_of_getElem? (i := 81) rfl)) rfl
theorem g_6_82 : (Jvm.Cond.fieldLink "BundleHouseModel" (78 : Nat) "BundleHouseModel" "flag" "[I") ∈ GT := gt_of (ts_6 (List.mem_of_getElem? (i := 82) rfl)) rfl
theorem g_6_83 : (Jvm.Cond.fieldLink "BundleHouseModel" (81 : Nat) "BundleHouseModel" "memory" "[I") ∈ GT := gt_of (ts_6 (List.mem_of_getElem? (i := 83) rfl)) rfl
theorem g_6_84 : (Jvm.Cond.fieldLink "BundleHouseModel" (84 : Nat) "BundleHouseModel" "output" "[I") ∈ GT := gt_of (ts_6 (List.mem_of_getElem? (i := 84) rfl)) rfl
theorem g_6_85 : (Jvm.Cond.fieldLink "BundleHouseModel" (87 : Nat) "BundleHouseModel" "outputs" "[I") ∈ GT := gt_of (ts_6 (List.mem_of_getElem? (i := 85) rfl)) rfl
theorem g_6_86 : (Jvm.Cond.fieldLink "BundleHouseModel" (90 : Nat) "BundleHouseModel" "address" "[I") ∈ GT := gt_of (ts_6 (List.mem_of_getElem? (i := 86) rfl)) rfl
theorem g_6_87 : (Jvm.Cond.fieldLink "BundleHouseModel" (93 : Nat) "BundleHouseModel" "steps" "[I") ∈ GT := gt_of (ts_6 (List.mem_of_getElem? (i := 87) rfl)) rfl
theorem g_6_88 : (Jvm.Cond.fieldLink "BundleHouseModel" (96 : Nat) "BundleHouseModel" "stop" "[I") ∈ GT := gt_of (ts_6 (List.mem_of_getElem? (i := 88) rfl)) rfl
theorem g_6_89 : (Jvm.Cond.fieldLink "BundleHouseModel" (325 : Nat) "BundleHouseModel" "strange" "I") ∈ GT := gt_of (ts_6 (List.mem_of_getElem? (i := 89) rfl)) rfl
theorem g_6_9 : (Jvm.Cond.methodLink "BundleHouse$Walker" (156 : Nat) ({ cls := "BundleHouse$Flags", name := "setAll", desc := "(I)V" } : Jvm.MethodName)) ∈ GT := gt_of (ts_6 (List.mem_of_getElem? (i := 9) rfl)) rfl
theorem g_6_90 : (Jvm.Cond.fieldLink "BundleHouseModel" (316 : Nat) "BundleHouseModel" "oneUnknown" "Z") ∈ GT := gt_of (ts_6 (List.mem_of_getElem? (i := 90) rfl)) rfl
theorem g_6_91 : (Jvm.Cond.fieldLink "BundleHouseModel" (322 : Nat) "BundleHouseModel" "inputTaken" "I") ∈ GT := gt_of (ts_6 (List.mem_of_getElem? (i := 91) rfl)) rfl
theorem g_6_92 : (Jvm.Cond.fieldLink "BundleHouseModel" (313 : Nat) "BundleHouseModel" "which" "I") ∈ GT := gt_of (ts_6 (List.mem_of_getElem? (i := 92) rfl)) rfl
theorem g_6_93 : (Jvm.Cond.fieldLink "BundleHouseModel" (99 : Nat) "BundleHouseModel" "from" "[I") ∈ GT := gt_of (ts_6 (List.mem_of_getElem? (i := 93) rfl)) rfl
theorem g_6_94 : (Jvm.Cond.fieldLink "BundleHouseModel" (118 : Nat) "BundleHouseModel" "limit" "I") ∈ GT := gt_of (ts_6 (List.mem_of_getElem? (i := 94) rfl)) rfl
theorem g_6_95 : (Jvm.Cond.fieldLink "BundleHouseModel" (115 : Nat) "BundleHouseModel" "at" "I") ∈ GT := gt_of (ts_6 (List.mem_of_getElem? (i := 95) rfl)) rfl
theorem g_6_96 : (Jvm.Cond.fieldLink "BundleHouseModel" (144 : Nat) "BundleHouseModel" "dOp" "I") ∈ GT := gt_of (ts_6 (List.mem_of_getElem? (i := 96) rfl)) rfl
theorem g_6_97 : (Jvm.Cond.fieldLink "BundleHouseModel" (147 : Nat) "BundleHouseModel" "dForm" "I") ∈ GT := gt_of (ts_6 (List.mem_of_getElem? (i := 97) rfl)) rfl
theorem g_6_98 : (Jvm.Cond.fieldLink "BundleHouseModel" (153 : Nat) "BundleHouseModel" "dR" "I") ∈ GT := gt_of (ts_6 (List.mem_of_getElem? (i := 98) rfl)) rfl
theorem g_6_99 : (Jvm.Cond.fieldLink "BundleHouseModel" (132 : Nat) "BundleHouseModel" "dX" "I") ∈ GT := gt_of (ts_6 (List.mem_of_getElem? (i := 99) rfl)) rfl
theorem g_7_100 : (Jvm.Cond.methodLink "BundleHouseModel" (223 : Nat) ({ cls := "BundleHouseModel", name := "isMemoryX", desc := "(I)Z" } : Jvm.MethodName)) ∈ GT := gt_of (ts_7 (List.mem_of_getElem? (i := 100) rfl)) rfl
theorem g_7_101 : (Jvm.Cond.static ({ cls := "BundleHouseModel", name := "isMemoryX", desc := "(I)Z" } : Jvm.MethodName)) ∈ GT := gt_of (ts_7 (List.mem_of_getElem? (i := 101) rfl)) rfl
theorem g_7_102 : (Jvm.Cond.code ({ cls := "BundleHouseModel", name := "isMemoryX", desc := "(I)Z" } : Jvm.MethodName) prog_14_method_25_code (3 : Nat) (Option.some Jvm.ClassFile.FieldType.boolean)) ∈ GT := gt_of (ts_7 (List.mem_of_getElem? (i := 102) rfl)) rfl
theorem g_7_103 : (Jvm.Cond.methodLink "BundleHouseModel" (226 : Nat) ({ cls := "BundleHouseModel", name := "formHasI", desc := "(I)Z" } : Jvm.MethodName)) ∈ GT := gt_of (ts_7 (List.mem_of_getElem? (i := 103) rfl)) rfl
theorem g_7_104 : (Jvm.Cond.static ({ cls := "BundleHouseModel", name := "formHasI", desc := "(I)Z" } : Jvm.MethodName)) ∈ GT := gt_of (ts_7 (List.mem_of_getElem? (i := 104) rfl)) rfl
theorem g_7_105 : (Jvm.Cond.code ({ cls := "BundleHouseModel", name := "formHasI", desc := "(I)Z" } : Jvm.MethodName) prog_14_method_29_code (1 : Nat) (Option.some Jvm.ClassFile.FieldType.boolean)) ∈ GT := gt_of (ts_7 (List.mem_of_getElem? (i := 105) rfl)) rfl
theorem g_7_107 : (Jvm.Cond.instanceMethod ({ cls := "BundleHouseModel", name := "flow", desc := "(III)I" } : Jvm.MethodName)) ∈ GT := gt_of (ts_7 (List.mem_of_getElem? (i := 107) rfl)) rfl
theorem g_7_108 : (Jvm.Cond.selects "BundleHouseModel" ({ cls := "BundleHouseModel", name := "flow", desc := "(III)I" } : Jvm.MethodName) ({ cls := "BundleHouseModel", name := "flow", desc := "(III)I" } : Jvm.MethodName)) ∈ GT := gt_of (ts_7 (List.mem_of_getElem? (i := 108) rfl)) rfl
theorem g_7_109 : (Jvm.Cond.code ({ cls := "BundleHouseModel", name := "flow", desc := "(III)I" } : Jvm.MethodName) prog_14_method_31_code (7 : Nat) (Option.some Jvm.ClassFile.FieldType.int)) ∈ GT := gt_of (ts_7 (List.mem_of_getElem? (i := 109) rfl)) rfl
theorem g_7_11 : (Jvm.Cond.instanceMethod ({ cls := "BundleHouseModel", name := "word", desc := "(I)V" } : Jvm.MethodName)) ∈ GT := gt_of (ts_7 (List.mem_of_getElem? (i := 11) rfl)) rfl
theorem g_7_111 : (Jvm.Cond.instanceMethod ({ cls := "BundleHouseModel", name := "clear", desc := "()I" } : Jvm.MethodName)) ∈ GT := gt_of (ts_7 (List.mem_of_getElem? (i := 111) rfl)) rfl
theorem g_7_112 : (Jvm.Cond.selects "BundleHouseModel" ({ cls := "BundleHouseModel", name := "clear", desc := "()I" } : Jvm.MethodName) ({ cls := "BundleHouseModel", name := "clear", desc := "()I" } : Jvm.MethodName)) ∈ GT := gt_of (ts_7 (List.mem_of_getElem? (i := 112) rfl)) rfl
theorem g_7_113 : (Jvm.Cond.code ({ cls := "BundleHouseModel", name := "clear", desc := "()I" } : Jvm.MethodName) prog_14_method_32_code (2 : Nat) (Option.some Jvm.ClassFile.FieldType.int)) ∈ GT := gt_of (ts_7 (List.mem_of_getElem? (i := 113) rfl)) rfl
theorem g_7_115 : (Jvm.Cond.instanceMethod ({ cls := "BundleHouseModel", name := "build", desc := "()I" } : Jvm.MethodName)) ∈ GT := gt_of (ts_7 (List.mem_of_getElem? (i := 115) rfl)) rfl
theorem g_7_116 : (Jvm.Cond.selects "BundleHouseModel" ({ cls := "BundleHouseModel", name := "build", desc := "()I" } : Jvm.MethodName) ({ cls := "BundleHouseModel", name := "build", desc := "()I" } : Jvm.MethodName)) ∈ GT := gt_of (ts_7 (List.mem_of_getElem? (i := 116) rfl)) rfl
theorem g_7_117 : (Jvm.Cond.code ({ cls := "BundleHouseModel", name := "build", desc := "()I" } : Jvm.MethodName) prog_14_method_47_code (5 : Nat) (Option.some Jvm.ClassFile.FieldType.int)) ∈ GT := gt_of (ts_7 (List.mem_of_getElem? (i := 117) rfl)) rfl
theorem g_7_118 : (Jvm.Cond.methodLink "BundleHouseModel" (273 : Nat) ({ cls := "BundleHouseModel", name := "firstWrong", desc := "()I" } : Jvm.MethodName)) ∈ GT := gt_of (ts_7 (List.mem_of_getElem? (i := 118) rfl)) rfl
theorem g_7_12 : (Jvm.Cond.code ({ cls := "BundleHouseModel", name := "word", desc := "(I)V" } : Jvm.MethodName) prog_14_method_5_code (3 : Nat) (Option.none : Option Jvm.ClassFile.FieldType)) ∈ GT := gt_of (ts_7 (List.mem_of_getElem? (i := 12) rfl)) rfl
theorem g_7_120 : (Jvm.Cond.instanceMethod ({ cls := "BundleHouseModel", name := "firstWrong", desc := "()I" } : Jvm.MethodName)) ∈ GT := gt_of (ts_7 (List.mem_of_getElem? (i := 120) rfl)) rfl
theorem g_7_121 : (Jvm.Cond.code ({ cls := "BundleHouseModel", name := "firstWrong", desc := "()I" } : Jvm.MethodName) prog_14_method_46_code (4 : Nat) (Option.some Jvm.ClassFile.FieldType.int)) ∈ GT := gt_of (ts_7 (List.mem_of_getElem? (i := 121) rfl)) rfl
theorem g_7_122 : (Jvm.Cond.methodLink "BundleHouseModel" (276 : Nat) ({ cls := "BundleHouseModel", name := "layAll", desc := "()V" } : Jvm.MethodName)) ∈ GT := gt_of (ts_7 (List.mem_of_getElem? (i := 122) rfl)) rfl
theorem g_7_124 : (Jvm.Cond.instanceMethod ({ cls := "BundleHouseModel", name := "layAll", desc := "()V" } : Jvm.MethodName)) ∈ GT := gt_of (ts_7 (List.mem_of_getElem? (i := 124) rfl)) rfl
theorem g_7_125 : (Jvm.Cond.code ({ cls := "BundleHouseModel", name := "layAll", desc := "()V" } : Jvm.MethodName) prog_14_method_43_code (4 : Nat) (Option.none : Option Jvm.ClassFile.FieldType)) ∈ GT := gt_of (ts_7 (List.mem_of_getElem? (i := 125) rfl)) rfl
theorem g_7_126 : (Jvm.Cond.methodLink "BundleHouseModel" (263 : Nat) ({ cls := "BundleHouseModel", name := "lay", desc := "(IZ)I" } : Jvm.MethodName)) ∈ GT := gt_of (ts_7 (List.mem_of_getElem? (i := 126) rfl)) rfl
theorem g_7_128 : (Jvm.Cond.instanceMethod ({ cls := "BundleHouseModel", name := "lay", desc := "(IZ)I" } : Jvm.MethodName)) ∈ GT := gt_of (ts_7 (List.mem_of_getElem? (i := 128) rfl)) rfl
theorem g_7_129 : (Jvm.Cond.code ({ cls := "BundleHouseModel", name := "lay", desc := "(IZ)I" } : Jvm.MethodName) prog_14_method_41_code (4 : Nat) (Option.some Jvm.ClassFile.FieldType.int)) ∈ GT := gt_of (ts_7 (List.mem_of_getElem? (i := 129) rfl)) rfl
theorem g_7_130 : (Jvm.Cond.methodLink "BundleHouseModel" (267 : Nat) ({ cls := "BundleHouseModel", name := "sizeOf", desc := "(I)I" } : Jvm.MethodName)) ∈ GT := gt_of (ts_7 (List.mem_of_getElem? (i := 130) rfl)) rfl
theorem g_7_132 : (Jvm.Cond.instanceMethod ({ cls := "BundleHouseModel", name := "sizeOf", desc := "(I)I" } : Jvm.MethodName)) ∈ GT := gt_of (ts_7 (List.mem_of_getElem? (i := 132) rfl)) rfl
theorem g_7_133 : (Jvm.Cond.code ({ cls := "BundleHouseModel", name := "sizeOf", desc := "(I)I" } : Jvm.MethodName) prog_14_method_42_code (2 : Nat) (Option.some Jvm.ClassFile.FieldType.int)) ∈ GT := gt_of (ts_7 (List.mem_of_getElem? (i := 133) rfl)) rfl
theorem g_7_134 : (Jvm.Cond.methodLink "BundleHouseModel" (260 : Nat) ({ cls := "BundleHouseModel", name := "encode", desc := "(I)V" } : Jvm.MethodName)) ∈ GT := gt_of (ts_7 (List.mem_of_getElem? (i := 134) rfl)) rfl
theorem g_7_136 : (Jvm.Cond.instanceMethod ({ cls := "BundleHouseModel", name := "encode", desc := "(I)V" } : Jvm.MethodName)) ∈ GT := gt_of (ts_7 (List.mem_of_getElem? (i := 136) rfl)) rfl
theorem g_7_137 : (Jvm.Cond.code ({ cls := "BundleHouseModel", name := "encode", desc := "(I)V" } : Jvm.MethodName) prog_14_method_39_code (6 : Nat) (Option.none : Option Jvm.ClassFile.FieldType)) ∈ GT := gt_of (ts_7 (List.mem_of_getElem? (i := 137) rfl)) rfl
theorem g_7_138 : (Jvm.Cond.methodLink "BundleHouseModel" (232 : Nat) ({ cls := "BundleHouseModel", name := "put", desc := "(I)V" } : Jvm.MethodName)) ∈ GT := gt_of (ts_7 (List.mem_of_getElem? (i := 138) rfl)) rfl
theorem g_7_14 : (Jvm.Cond.instanceMethod ({ cls := "BundleHouseModel", name := "end", desc := "(I)Z" } : Jvm.MethodName)) ∈ GT := gt_of (ts_7 (List.mem_of_getElem? (i := 14) rfl)) rfl
theorem g_7_140 : (Jvm.Cond.instanceMethod ({ cls := "BundleHouseModel", name := "put", desc := "(I)V" } : Jvm.MethodName)) ∈ GT := gt_of (ts_7 (List.mem_of_getElem? (i := 140) rfl)) rfl
theorem g_7_141 : (Jvm.Cond.code ({ cls := "BundleHouseModel", name := "put", desc := "(I)V" } : Jvm.MethodName) prog_14_method_33_code (2 : Nat) (Option.none : Option Jvm.ClassFile.FieldType)) ∈ GT := gt_of (ts_7 (List.mem_of_getElem? (i := 141) rfl)) rfl
theorem g_7_142 : (Jvm.Cond.methodLink "BundleHouseModel" (241 : Nat) ({ cls := "BundleHouseModel", name := "putRegister", desc := "(II)V" } : Jvm.MethodName)) ∈ GT := gt_of (ts_7 (List.mem_of_getElem? (i := 142) rfl)) rfl
theorem g_7_144 : (Jvm.Cond.instanceMethod ({ cls := "BundleHouseModel", name := "putRegister", desc := "(II)V" } : Jvm.MethodName)) ∈ GT := gt_of (ts_7 (List.mem_of_getElem? (i := 144) rfl)) rfl
theorem g_7_145 : (Jvm.Cond.code ({ cls := "BundleHouseModel", name := "putRegister", desc := "(II)V" } : Jvm.MethodName) prog_14_method_36_code (3 : Nat) (Option.none : Option Jvm.ClassFile.FieldType)) ∈ GT := gt_of (ts_7 (List.mem_of_getElem? (i := 145) rfl)) rfl
theorem g_7_146 : (Jvm.Cond.methodLink "BundleHouseModel" (245 : Nat) ({ cls := "BundleHouseModel", name := "leftCode", desc := "(I)I" } : Jvm.MethodName)) ∈ GT := gt_of (ts_7 (List.mem_of_getElem? (i := 146) rfl)) rfl
theorem g_7_147 : (Jvm.Cond.static ({ cls := "BundleHouseModel", name := "leftCode", desc := "(I)I" } : Jvm.MethodName)) ∈ GT := gt_of (ts_7 (List.mem_of_getElem? (i := 147) rfl)) rfl
theorem g_7_148 : (Jvm.Cond.code ({ cls := "BundleHouseModel", name := "leftCode", desc := "(I)I" } : Jvm.MethodName) prog_14_method_38_code (1 : Nat) (Option.some Jvm.ClassFile.FieldType.int)) ∈ GT := gt_of (ts_7 (List.mem_of_getElem? (i := 148) rfl)) rfl
theorem g_7_149 : (Jvm.Cond.methodLink "BundleHouseModel" (249 : Nat) ({ cls := "BundleHouseModel", name := "putMemory", desc := "(III)V" } : Jvm.MethodName)) ∈ GT := gt_of (ts_7 (List.mem_of_getElem? (i := 149) rfl)) rfl
theorem g_7_15 : (Jvm.Cond.selects "BundleHouseModel" ({ cls := "BundleHouseModel", name := "end", desc := "(I)Z" } : Jvm.MethodName) ({ cls := "BundleHouseModel", name := "end", desc := "(I)Z" } : Jvm.MethodName)) ∈ GT := gt_of (ts_7 (List.mem_of_getElem? (i := 15) rfl)) rfl
theorem g_7_151 : (Jvm.Cond.instanceMethod ({ cls := "BundleHouseModel", name := "putMemory", desc := "(III)V" } : Jvm.MethodName)) ∈ GT := gt_of (ts_7 (List.mem_of_getElem? (i := 151) rfl)) rfl
theorem g_7_152 : (Jvm.Cond.code ({ cls := "BundleHouseModel", name := "putMemory", desc := "(III)V" } : Jvm.MethodName) prog_14_method_37_code (8 : Nat) (Option.none : Option Jvm.ClassFile.FieldType)) ∈ GT := gt_of (ts_7 (List.mem_of_getElem? (i := 152) rfl)) rfl
theorem g_7_153 : (Jvm.Cond.methodLink "BundleHouseModel" (235 : Nat) ({ cls := "BundleHouseModel", name := "putFour", desc := "(I)V" } : Jvm.MethodName)) ∈ GT := gt_of (ts_7 (List.mem_of_getElem? (i := 153) rfl)) rfl
theorem g_7_155 : (Jvm.Cond.instanceMethod ({ cls := "BundleHouseModel", name := "putFour", desc := "(I)V" } : Jvm.MethodName)) ∈ GT := gt_of (ts_7 (List.mem_of_getElem? (i := 155) rfl)) rfl
theorem g_7_156 : (Jvm.Cond.code ({ cls := "BundleHouseModel", name := "putFour", desc := "(I)V" } : Jvm.MethodName) prog_14_method_34_code (3 : Nat) (Option.none : Option Jvm.ClassFile.FieldType)) ∈ GT := gt_of (ts_7 (List.mem_of_getElem? (i := 156) rfl)) rfl
theorem g_7_157 : (Jvm.Cond.methodLink "BundleHouseModel" (238 : Nat) ({ cls := "BundleHouseModel", name := "isSmall", desc := "(I)Z" } : Jvm.MethodName)) ∈ GT := gt_of (ts_7 (List.mem_of_getElem? (i := 157) rfl)) rfl
theorem g_7_158 : (Jvm.Cond.static ({ cls := "BundleHouseModel", name := "isSmall", desc := "(I)Z" } : Jvm.MethodName)) ∈ GT := gt_of (ts_7 (List.mem_of_getElem? (i := 158) rfl)) rfl
theorem g_7_159 : (Jvm.Cond.code ({ cls := "BundleHouseModel", name := "isSmall", desc := "(I)Z" } : Jvm.MethodName) prog_14_method_35_code (1 : Nat) (Option.some Jvm.ClassFile.FieldType.boolean)) ∈ GT := gt_of (ts_7 (List.mem_of_getElem? (i := 159) rfl)) rfl
theorem g_7_16 : (Jvm.Cond.code ({ cls := "BundleHouseModel", name := "end", desc := "(I)Z" } : Jvm.MethodName) prog_14_method_6_code (2 : Nat) (Option.some Jvm.ClassFile.FieldType.boolean)) ∈ GT := gt_of (ts_7 (List.mem_of_getElem? (i := 16) rfl)) rfl
theorem g_7_160 : (Jvm.Cond.methodLink "BundleHouseModel" (253 : Nat) ({ cls := "BundleHouseModel", name := "encodeNumber", desc := "(IIIII)V" } : Jvm.MethodName)) ∈ GT := gt_of (ts_7 (List.mem_of_getElem? (i := 160) rfl)) rfl
theorem g_7_162 : (Jvm.Cond.instanceMethod ({ cls := "BundleHouseModel", name := "encodeNumber", desc := "(IIIII)V" } : Jvm.MethodName)) ∈ GT := gt_of (ts_7 (List.mem_of_getElem? (i := 162) rfl)) rfl
theorem g_7_163 : (Jvm.Cond.code ({ cls := "BundleHouseModel", name := "encodeNumber", desc := "(IIIII)V" } : Jvm.MethodName) prog_14_method_40_code (10 : Nat) (Option.none : Option Jvm.ClassFile.FieldType)) ∈ GT := gt_of (ts_7 (List.mem_of_getElem? (i := 163) rfl)) rfl
theorem g_7_164 : (Jvm.Cond.methodLink "BundleHouseModel" (279 : Nat) ({ cls := "BundleHouseModel", name := "lengthens", desc := "()Z" } : Jvm.MethodName)) ∈ GT := gt_of (ts_7 (List.mem_of_getElem? (i := 164) rfl)) rfl
theorem g_7_166 : (Jvm.Cond.instanceMethod ({ cls := "BundleHouseModel", name := "lengthens", desc := "()Z" } : Jvm.MethodName)) ∈ GT := gt_of (ts_7 (List.mem_of_getElem? (i := 166) rfl)) rfl
theorem g_7_167 : (Jvm.Cond.code ({ cls := "BundleHouseModel", name := "lengthens", desc := "()Z" } : Jvm.MethodName) prog_14_method_45_code (3 : Nat) (Option.some Jvm.ClassFile.FieldType.boolean)) ∈ GT := gt_of (ts_7 (List.mem_of_getElem? (i := 167) rfl)) rfl
theorem g_7_168 : (Jvm.Cond.methodLink "BundleHouseModel" (270 : Nat) ({ cls := "BundleHouseModel", name := "far", desc := "(I)I" } : Jvm.MethodName)) ∈ GT := gt_of (ts_7 (List.mem_of_getElem? (i := 168) rfl)) rfl
theorem g_7_170 : (Jvm.Cond.instanceMethod ({ cls := "BundleHouseModel", name := "far", desc := "(I)I" } : Jvm.MethodName)) ∈ GT := gt_of (ts_7 (List.mem_of_getElem? (i := 170) rfl)) rfl
theorem g_7_171 : (Jvm.Cond.code ({ cls := "BundleHouseModel", name := "far", desc := "(I)I" } : Jvm.MethodName) prog_14_method_44_code (2 : Nat) (Option.some Jvm.ClassFile.FieldType.int)) ∈ GT := gt_of (ts_7 (List.mem_of_getElem? (i := 171) rfl)) rfl
theorem g_7_172 : (Jvm.Cond.methodLink "BundleHouseModel" (282 : Nat) ({ cls := "BundleHouseModel", name := "write", desc := "(I)V" } : Jvm.MethodName)) ∈ GT := gt_of (ts_7 (List.mem_of_getElem? (i := 172) rfl)) rfl
theorem g_7_174 : (Jvm.Cond.instanceMethod ({ cls := "BundleHouseModel", name := "write", desc := "(I)V" } : Jvm.MethodName)) ∈ GT := gt_of (ts_7 (List.mem_of_getElem? (i := 174) rfl)) rfl
theorem g_7_175 : (Jvm.Cond.code ({ cls := "BundleHouseModel", name := "write", desc := "(I)V" } : Jvm.MethodName) prog_14_method_50_code (4 : Nat) (Option.none : Option Jvm.ClassFile.FieldType)) ∈ GT := gt_of (ts_7 (List.mem_of_getElem? (i := 175) rfl)) rfl
theorem g_7_176 : (Jvm.Cond.methodLink "BundleHouseModel" (291 : Nat) ({ cls := "BundleHouseModel", name := "putFar", desc := "(I)V" } : Jvm.MethodName)) ∈ GT := gt_of (ts_7 (List.mem_of_getElem? (i := 176) rfl)) rfl
theorem g_7_178 : (Jvm.Cond.instanceMethod ({ cls := "BundleHouseModel", name := "putFar", desc := "(I)V" } : Jvm.MethodName)) ∈ GT := gt_of (ts_7 (List.mem_of_getElem? (i := 178) rfl)) rfl
theorem g_7_179 : (Jvm.Cond.code ({ cls := "BundleHouseModel", name := "putFar", desc := "(I)V" } : Jvm.MethodName) prog_14_method_51_code (3 : Nat) (Option.none : Option Jvm.ClassFile.FieldType)) ∈ GT := gt_of (ts_7 (List.mem_of_getElem? (i := 179) rfl)) rfl
theorem g_7_18 : (Jvm.Cond.instanceMethod ({ cls := "BundleHouseModel", name := "check", desc := "()I" } : Jvm.MethodName)) ∈ GT := gt_of (ts_7 (List.mem_of_getElem? (i := 18) rfl)) rfl
theorem g_7_180 : (Jvm.Cond.methodLink "BundleHouseModel" (294 : Nat) ({ cls := "BundleHouseModel", name := "copyBytes", desc := "(I)V" } : Jvm.MethodName)) ∈ GT := gt_of (ts_7 (List.mem_of_getElem? (i := 180) rfl)) rfl
theorem g_7_182 : (Jvm.Cond.instanceMethod ({ cls := "BundleHouseModel", name := "copyBytes", desc := "(I)V" } : Jvm.MethodName)) ∈ GT := gt_of (ts_7 (List.mem_of_getElem? (i := 182) rfl)) rfl
theorem g_7_183 : (Jvm.Cond.code ({ cls := "BundleHouseModel", name := "copyBytes", desc := "(I)V" } : Jvm.MethodName) prog_14_method_49_code (3 : Nat) (Option.none : Option Jvm.ClassFile.FieldType)) ∈ GT := gt_of (ts_7 (List.mem_of_getElem? (i := 183) rfl)) rfl
theorem g_7_184 : (Jvm.Cond.methodLink "BundleHouseModel" (297 : Nat) ({ cls := "BundleHouseModel", name := "putPair", desc := "(II)V" } : Jvm.MethodName)) ∈ GT := gt_of (ts_7 (List.mem_of_getElem? (i := 184) rfl)) rfl
theorem g_7_186 : (Jvm.Cond.instanceMethod ({ cls := "BundleHouseModel", name := "putPair", desc := "(II)V" } : Jvm.MethodName)) ∈ GT := gt_of (ts_7 (List.mem_of_getElem? (i := 186) rfl)) rfl
theorem g_7_187 : (Jvm.Cond.code ({ cls := "BundleHouseModel", name := "putPair", desc := "(II)V" } : Jvm.MethodName) prog_14_method_52_code (3 : Nat) (Option.none : Option Jvm.ClassFile.FieldType)) ∈ GT := gt_of (ts_7 (List.mem_of_getElem? (i := 187) rfl)) rfl
theorem g_7_188 : (Jvm.Cond.methodLink "BundleHouseModel" (285 : Nat) ({ cls := "BundleHouseModel", name := "starting", desc := "(I)V" } : Jvm.MethodName)) ∈ GT := gt_of (ts_7 (List.mem_of_getElem? (i := 188) rfl)) rfl
theorem g_7_19 : (Jvm.Cond.selects "BundleHouseModel" ({ cls := "BundleHouseModel", name := "check", desc := "()I" } : Jvm.MethodName) ({ cls := "BundleHouseModel", name := "check", desc := "()I" } : Jvm.MethodName)) ∈ GT := gt_of (ts_7 (List.mem_of_getElem? (i := 19) rfl)) rfl
theorem g_7_190 : (Jvm.Cond.instanceMethod ({ cls := "BundleHouseModel", name := "starting", desc := "(I)V" } : Jvm.MethodName)) ∈ GT := gt_of (ts_7 (List.mem_of_getElem? (i := 190) rfl)) rfl
theorem g_7_191 : (Jvm.Cond.code ({ cls := "BundleHouseModel", name := "starting", desc := "(I)V" } : Jvm.MethodName) prog_14_method_48_code (3 : Nat) (Option.none : Option Jvm.ClassFile.FieldType)) ∈ GT := gt_of (ts_7 (List.mem_of_getElem? (i := 191) rfl)) rfl
theorem g_7_192 : (Jvm.Cond.methodLink "BundleHouseModel" (288 : Nat) ({ cls := "BundleHouseModel", name := "keepProgram", desc := "()V" } : Jvm.MethodName)) ∈ GT := gt_of (ts_7 (List.mem_of_getElem? (i := 192) rfl)) rfl
theorem g_7_194 : (Jvm.Cond.instanceMethod ({ cls := "BundleHouseModel", name := "keepProgram", desc := "()V" } : Jvm.MethodName)) ∈ GT := gt_of (ts_7 (List.mem_of_getElem? (i := 194) rfl)) rfl
theorem g_7_195 : (Jvm.Cond.code ({ cls := "BundleHouseModel", name := "keepProgram", desc := "()V" } : Jvm.MethodName) prog_14_method_53_code (2 : Nat) (Option.none : Option Jvm.ClassFile.FieldType)) ∈ GT := gt_of (ts_7 (List.mem_of_getElem? (i := 195) rfl)) rfl
theorem g_7_197 : (Jvm.Cond.instanceMethod ({ cls := "BundleHouseModel", name := "size", desc := "()I" } : Jvm.MethodName)) ∈ GT := gt_of (ts_7 (List.mem_of_getElem? (i := 197) rfl)) rfl
theorem g_7_198 : (Jvm.Cond.selects "BundleHouseModel" ({ cls := "BundleHouseModel", name := "size", desc := "()I" } : Jvm.MethodName) ({ cls := "BundleHouseModel", name := "size", desc := "()I" } : Jvm.MethodName)) ∈ GT := gt_of (ts_7 (List.mem_of_getElem? (i := 198) rfl)) rfl
theorem g_7_199 : (Jvm.Cond.code ({ cls := "BundleHouseModel", name := "size", desc := "()I" } : Jvm.MethodName) prog_14_method_54_code (1 : Nat) (Option.some Jvm.ClassFile.FieldType.int)) ∈ GT := gt_of (ts_7 (List.mem_of_getElem? (i := 199) rfl)) rfl
theorem g_7_2 : (Jvm.Cond.instanceMethod ({ cls := "BundleHouseModel", name := "thrown", desc := "()I" } : Jvm.MethodName)) ∈ GT := gt_of (ts_7 (List.mem_of_getElem? (i := 2) rfl)) rfl
theorem g_7_20 : (Jvm.Cond.code ({ cls := "BundleHouseModel", name := "check", desc := "()I" } : Jvm.MethodName) prog_14_method_21_code (2 : Nat) (Option.some Jvm.ClassFile.FieldType.int)) ∈ GT := gt_of (ts_7 (List.mem_of_getElem? (i := 20) rfl)) rfl
theorem g_7_201 : (Jvm.Cond.instanceMethod ({ cls := "BundleHouseModel", name := "code", desc := "(I)I" } : Jvm.MethodName)) ∈ GT := gt_of (ts_7 (List.mem_of_getElem? (i := 201) rfl)) rfl
theorem g_7_202 : (Jvm.Cond.selects "BundleHouseModel" ({ cls := "BundleHouseModel", name := "code", desc := "(I)I" } : Jvm.MethodName) ({ cls := "BundleHouseModel", name := "code", desc := "(I)I" } : Jvm.MethodName)) ∈ GT := gt_of (ts_7 (List.mem_of_getElem? (i := 202) rfl)) rfl
theorem g_7_203 : (Jvm.Cond.code ({ cls := "BundleHouseModel", name := "code", desc := "(I)I" } : Jvm.MethodName) prog_14_method_55_code (2 : Nat) (Option.some Jvm.ClassFile.FieldType.int)) ∈ GT := gt_of (ts_7 (List.mem_of_getElem? (i := 203) rfl)) rfl
theorem g_7_205 : (Jvm.Cond.instanceMethod ({ cls := "BundleHouseModel", name := "decoded", desc := "(II)I" } : Jvm.MethodName)) ∈ GT := gt_of (ts_7 (List.mem_of_getElem? (i := 205) rfl)) rfl
theorem g_7_206 : (Jvm.Cond.selects "BundleHouseModel" ({ cls := "BundleHouseModel", name := "decoded", desc := "(II)I" } : Jvm.MethodName) ({ cls := "BundleHouseModel", name := "decoded", desc := "(II)I" } : Jvm.MethodName)) ∈ GT := gt_of (ts_7 (List.mem_of_getElem? (i := 206) rfl)) rfl
theorem g_7_207 : (Jvm.Cond.code ({ cls := "BundleHouseModel", name := "decoded", desc := "(II)I" } : Jvm.MethodName) prog_14_method_56_code (4 : Nat) (Option.some Jvm.ClassFile.FieldType.int)) ∈ GT := gt_of (ts_7 (List.mem_of_getElem? (i := 207) rfl)) rfl
theorem g_7_208 : (Jvm.Cond.methodLink "BundleHouseModel" (306 : Nat) ({ cls := "BundleHouseModel", name := "throwing", desc := "(ZZ)Z" } : Jvm.MethodName)) ∈ GT := gt_of (ts_7 (List.mem_of_getElem? (i := 208) rfl)) rfl
theorem g_7_21 : (Jvm.Cond.methodLink "BundleHouseModel" (194 : Nat) ({ cls := "BundleHouseModel", name := "keeps", desc := "([II[I)Z" } : Jvm.MethodName)) ∈ GT := gt_of (ts_7 (List.mem_of_getElem? (i := 21) rfl)) rfl
theorem g_7_210 : (Jvm.Cond.instanceMethod ({ cls := "BundleHouseModel", name := "throwing", desc := "(ZZ)Z" } : Jvm.MethodName)) ∈ GT := gt_of (ts_7 (List.mem_of_getElem? (i := 210) rfl)) rfl
theorem g_7_211 : (Jvm.Cond.code ({ cls := "BundleHouseModel", name := "throwing", desc := "(ZZ)Z" } : Jvm.MethodName) prog_14_method_3_code (3 : Nat) (Option.some Jvm.ClassFile.FieldType.boolean)) ∈ GT := gt_of (ts_7 (List.mem_of_getElem? (i := 211) rfl)) rfl
theorem g_7_213 : (Jvm.Cond.instanceMethod ({ cls := "BundleHouseModel", name := "place", desc := "(II)I" } : Jvm.MethodName)) ∈ GT := gt_of (ts_7 (List.mem_of_getElem? (i := 213) rfl)) rfl
theorem g_7_214 : (Jvm.Cond.selects "BundleHouseModel" ({ cls := "BundleHouseModel", name := "place", desc := "(II)I" } : Jvm.MethodName) ({ cls := "BundleHouseModel", name := "place", desc := "(II)I" } : Jvm.MethodName)) ∈ GT := gt_of (ts_7 (List.mem_of_getElem? (i := 214) rfl)) rfl
theorem g_7_215 : (Jvm.Cond.code ({ cls := "BundleHouseModel", name := "place", desc := "(II)I" } : Jvm.MethodName) prog_14_method_57_code (3 : Nat) (Option.some Jvm.ClassFile.FieldType.int)) ∈ GT := gt_of (ts_7 (List.mem_of_getElem? (i := 215) rfl)) rfl
theorem g_7_217 : (Jvm.Cond.instanceMethod ({ cls := "BundleHouseModel", name := "set", desc := "(III)Z" } : Jvm.MethodName)) ∈ GT := gt_of (ts_7 (List.mem_of_getElem? (i := 217) rfl)) rfl
theorem g_7_218 : (Jvm.Cond.selects "BundleHouseModel" ({ cls := "BundleHouseModel", name := "set", desc := "(III)Z" } : Jvm.MethodName) ({ cls := "BundleHouseModel", name := "set", desc := "(III)Z" } : Jvm.MethodName)) ∈ GT := gt_of (ts_7 (List.mem_of_getElem? (i := 218) rfl)) rfl
theorem g_7_219 : (Jvm.Cond.code ({ cls := "BundleHouseModel", name := "set", desc := "(III)Z" } : Jvm.MethodName) prog_14_method_58_code (5 : Nat) (Option.some Jvm.ClassFile.FieldType.boolean)) ∈ GT := gt_of (ts_7 (List.mem_of_getElem? (i := 219) rfl)) rfl
theorem g_7_221 : (Jvm.Cond.instanceMethod ({ cls := "BundleHouseModel", name := "run", desc := "(I)I" } : Jvm.MethodName)) ∈ GT := gt_of (ts_7 (List.mem_of_getElem? (i := 221) rfl)) rfl
theorem g_7_222 : (Jvm.Cond.selects "BundleHouseModel" ({ cls := "BundleHouseModel", name := "run", desc := "(I)I" } : Jvm.MethodName) ({ cls := "BundleHouseModel", name := "run", desc := "(I)I" } : Jvm.MethodName)) ∈ GT := gt_of (ts_7 (List.mem_of_getElem? (i := 222) rfl)) rfl
theorem g_7_223 : (Jvm.Cond.code ({ cls := "BundleHouseModel", name := "run", desc := "(I)I" } : Jvm.MethodName) prog_14_method_81_code (3 : Nat) (Option.some Jvm.ClassFile.FieldType.int)) ∈ GT := gt_of (ts_7 (List.mem_of_getElem? (i := 223) rfl)) rfl
theorem g_7_224 : (Jvm.Cond.methodLink "BundleHouseModel" (396 : Nat) ({ cls := "BundleHouseModel", name := "begin", desc := "(I)V" } : Jvm.MethodName)) ∈ GT := gt_of (ts_7 (List.mem_of_getElem? (i := 224) rfl)) rfl
theorem g_7_226 : (Jvm.Cond.instanceMethod ({ cls := "BundleHouseModel", name := "begin", desc := "(I)V" } : Jvm.MethodName)) ∈ GT := gt_of (ts_7 (List.mem_of_getElem? (i := 226) rfl)) rfl
theorem g_7_227 : (Jvm.Cond.code ({ cls := "BundleHouseModel", name := "begin", desc := "(I)V" } : Jvm.MethodName) prog_14_method_65_code (3 : Nat) (Option.none : Option Jvm.ClassFile.FieldType)) ∈ GT := gt_of (ts_7 (List.mem_of_getElem? (i := 227) rfl)) rfl
theorem g_7_228 : (Jvm.Cond.methodLink "BundleHouseModel" (399 : Nat) ({ cls := "BundleHouseModel", name := "step", desc := "()I" } : Jvm.MethodName)) ∈ GT := gt_of (ts_7 (List.mem_of_getElem? (i := 228) rfl)) rfl
theorem g_7_23 : (Jvm.Cond.instanceMethod ({ cls := "BundleHouseModel", name := "keeps", desc := "([II[I)Z" } : Jvm.MethodName)) ∈ GT := gt_of (ts_7 (List.mem_of_getElem? (i := 23) rfl)) rfl
theorem g_7_230 : (Jvm.Cond.instanceMethod ({ cls := "BundleHouseModel", name := "step", desc := "()I" } : Jvm.MethodName)) ∈ GT := gt_of (ts_7 (List.mem_of_getElem? (i := 230) rfl)) rfl
theorem g_7_231 : (Jvm.Cond.code ({ cls := "BundleHouseModel", name := "step", desc := "()I" } : Jvm.MethodName) prog_14_method_82_code (6 : Nat) (Option.some Jvm.ClassFile.FieldType.int)) ∈ GT := gt_of (ts_7 (List.mem_of_getElem? (i := 231) rfl)) rfl
theorem g_7_232 : (Jvm.Cond.methodLink "BundleHouseModel" (319 : Nat) ({ cls := "BundleHouseModel", name := "reg", desc := "(I)I" } : Jvm.MethodName)) ∈ GT := gt_of (ts_7 (List.mem_of_getElem? (i := 232) rfl)) rfl
theorem g_7_234 : (Jvm.Cond.instanceMethod ({ cls := "BundleHouseModel", name := "reg", desc := "(I)I" } : Jvm.MethodName)) ∈ GT := gt_of (ts_7 (List.mem_of_getElem? (i := 234) rfl)) rfl
theorem g_7_235 : (Jvm.Cond.code ({ cls := "BundleHouseModel", name := "reg", desc := "(I)I" } : Jvm.MethodName) prog_14_method_59_code (2 : Nat) (Option.some Jvm.ClassFile.FieldType.int)) ∈ GT := gt_of (ts_7 (List.mem_of_getElem? (i := 235) rfl)) rfl
theorem g_7_236 : (Jvm.Cond.methodLink "BundleHouseModel" (356 : Nat) ({ cls := "BundleHouseModel", name := "isThere", desc := "(I)Z" } : Jvm.MethodName)) ∈ GT := gt_of (ts_7 (List.mem_of_getElem? (i := 236) rfl)) rfl
theorem g_7_237 : (Jvm.Cond.static ({ cls := "BundleHouseModel", name := "isThere", desc := "(I)Z" } : Jvm.MethodName)) ∈ GT := gt_of (ts_7 (List.mem_of_getElem? (i := 237) rfl)) rfl
theorem g_7_238 : (Jvm.Cond.code ({ cls := "BundleHouseModel", name := "isThere", desc := "(I)Z" } : Jvm.MethodName) prog_14_method_61_code (1 : Nat) (Option.some Jvm.ClassFile.FieldType.boolean)) ∈ GT := gt_of (ts_7 (List.mem_of_getElem? (i := 238) rfl)) rfl
theorem g_7_239 : (Jvm.Cond.methodLink "BundleHouseModel" (402 : Nat) ({ cls := "BundleHouseModel", name := "serves", desc := "(I)V" } : Jvm.MethodName)) ∈ GT := gt_of (ts_7 (List.mem_of_getElem? (i := 239) rfl)) rfl
theorem g_7_24 : (Jvm.Cond.code ({ cls := "BundleHouseModel", name := "keeps", desc := "([II[I)Z" } : Jvm.MethodName) prog_14_method_19_code (10 : Nat) (Option.some Jvm.ClassFile.FieldType.boolean)) ∈ GT := gt_of (ts_7 (List.mem_of_getElem? (i := 24) rfl)) rfl
theorem g_7_25 : (Jvm.Cond.methodLink "BundleHouseModel" (184 : Nat) ({ cls := "BundleHouseModel", name := "faults", desc := "(II)Z" } : Jvm.MethodName)) ∈ GT := gt_of (ts_7 (List.mem_of_getElem? (i := 25) rfl)) rfl
theorem g_7_27 : (Jvm.Cond.instanceMethod ({ cls := "BundleHouseModel", name := "faults", desc := "(II)Z" } : Jvm.MethodName)) ∈ GT := gt_of (ts_7 (List.mem_of_getElem? (i := 27) rfl)) rfl
theorem g_7_28 : (Jvm.Cond.code ({ cls := "BundleHouseModel", name := "faults", desc := "(II)Z" } : Jvm.MethodName) prog_14_method_18_code (3 : Nat) (Option.some Jvm.ClassFile.FieldType.boolean)) ∈ GT := gt_of (ts_7 (List.mem_of_getElem? (i := 28) rfl)) rfl
theorem g_7_29 : (Jvm.Cond.methodLink "BundleHouseModel" (187 : Nat) ({ cls := "BundleHouseModel", name := "decode", desc := "([III)I" } : Jvm.MethodName)) ∈ GT := gt_of (ts_7 (List.mem_of_getElem? (i := 29) rfl)) rfl
theorem g_7_3 : (Jvm.Cond.selects "BundleHouseModel" ({ cls := "BundleHouseModel", name := "thrown", desc := "()I" } : Jvm.MethodName) ({ cls := "BundleHouseModel", name := "thrown", desc := "()I" } : Jvm.MethodName)) ∈ GT := gt_of (ts_7 (List.mem_of_getElem? (i := 3) rfl)) rfl
theorem g_7_31 : (Jvm.Cond.instanceMethod ({ cls := "BundleHouseModel", name := "decode", desc := "([III)I" } : Jvm.MethodName)) ∈ GT := gt_of (ts_7 (List.mem_of_getElem? (i := 31) rfl)) rfl
theorem g_7_32 : (Jvm.Cond.code ({ cls := "BundleHouseModel", name := "decode", desc := "([III)I" } : Jvm.MethodName) prog_14_method_15_code (5 : Nat) (Option.some Jvm.ClassFile.FieldType.int)) ∈ GT := gt_of (ts_7 (List.mem_of_getElem? (i := 32) rfl)) rfl
theorem g_7_33 : (Jvm.Cond.methodLink "BundleHouseModel" (121 : Nat) ({ cls := "BundleHouseModel", name := "next", desc := "()I" } : Jvm.MethodName)) ∈ GT := gt_of (ts_7 (List.mem_of_getElem? (i := 33) rfl)) rfl
theorem g_7_35 : (Jvm.Cond.instanceMethod ({ cls := "BundleHouseModel", name := "next", desc := "()I" } : Jvm.MethodName)) ∈ GT := gt_of (ts_7 (List.mem_of_getElem? (i := 35) rfl)) rfl
theorem g_7_36 : (Jvm.Cond.code ({ cls := "BundleHouseModel", name := "next", desc := "()I" } : Jvm.MethodName) prog_14_method_7_code (1 : Nat) (Option.some Jvm.ClassFile.FieldType.int)) ∈ GT := gt_of (ts_7 (List.mem_of_getElem? (i := 36) rfl)) rfl
theorem g_7_37 : (Jvm.Cond.methodLink "BundleHouseModel" (163 : Nat) ({ cls := "BundleHouseModel", name := "known", desc := "(I)Z" } : Jvm.MethodName)) ∈ GT := gt_of (ts_7 (List.mem_of_getElem? (i := 37) rfl)) rfl
theorem g_7_39 : (Jvm.Cond.instanceMethod ({ cls := "BundleHouseModel", name := "known", desc := "(I)Z" } : Jvm.MethodName)) ∈ GT := gt_of (ts_7 (List.mem_of_getElem? (i := 39) rfl)) rfl
theorem g_7_4 : (Jvm.Cond.code ({ cls := "BundleHouseModel", name := "thrown", desc := "()I" } : Jvm.MethodName) prog_14_method_2_code (1 : Nat) (Option.some Jvm.ClassFile.FieldType.int)) ∈ GT := gt_of (ts_7 (List.mem_of_getElem? (i := 4) rfl)) rfl
theorem g_7_40 : (Jvm.Cond.code ({ cls := "BundleHouseModel", name := "known", desc := "(I)Z" } : Jvm.MethodName) prog_14_method_16_code (2 : Nat) (Option.some Jvm.ClassFile.FieldType.boolean)) ∈ GT := gt_of (ts_7 (List.mem_of_getElem? (i := 40) rfl)) rfl
theorem g_7_41 : (Jvm.Cond.methodLink "BundleHouseModel" (167 : Nat) ({ cls := "BundleHouseModel", name := "left", desc := "(I)Z" } : Jvm.MethodName)) ∈ GT := gt_of (ts_7 (List.mem_of_getElem? (i := 41) rfl)) rfl
theorem g_7_43 : (Jvm.Cond.instanceMethod ({ cls := "BundleHouseModel", name := "left", desc := "(I)Z" } : Jvm.MethodName)) ∈ GT := gt_of (ts_7 (List.mem_of_getElem? (i := 43) rfl)) rfl
theorem g_7_44 : (Jvm.Cond.code ({ cls := "BundleHouseModel", name := "left", desc := "(I)Z" } : Jvm.MethodName) prog_14_method_12_code (2 : Nat) (Option.some Jvm.ClassFile.FieldType.boolean)) ∈ GT := gt_of (ts_7 (List.mem_of_getElem? (i := 44) rfl)) rfl
theorem g_7_45 : (Jvm.Cond.methodLink "BundleHouseModel" (150 : Nat) ({ cls := "BundleHouseModel", name := "told", desc := "()V" } : Jvm.MethodName)) ∈ GT := gt_of (ts_7 (List.mem_of_getElem? (i := 45) rfl)) rfl
theorem g_7_47 : (Jvm.Cond.instanceMethod ({ cls := "BundleHouseModel", name := "told", desc := "()V" } : Jvm.MethodName)) ∈ GT := gt_of (ts_7 (List.mem_of_getElem? (i := 47) rfl)) rfl
theorem g_7_48 : (Jvm.Cond.code ({ cls := "BundleHouseModel", name := "told", desc := "()V" } : Jvm.MethodName) prog_14_method_10_code (9 : Nat) (Option.none : Option Jvm.ClassFile.FieldType)) ∈ GT := gt_of (ts_7 (List.mem_of_getElem? (i := 48) rfl)) rfl
theorem g_7_49 : (Jvm.Cond.methodLink "BundleHouseModel" (135 : Nat) ({ cls := "BundleHouseModel", name := "small", desc := "()I" } : Jvm.MethodName)) ∈ GT := gt_of (ts_7 (List.mem_of_getElem? (i := 49) rfl)) rfl
theorem g_7_51 : (Jvm.Cond.instanceMethod ({ cls := "BundleHouseModel", name := "small", desc := "()I" } : Jvm.MethodName)) ∈ GT := gt_of (ts_7 (List.mem_of_getElem? (i := 51) rfl)) rfl
theorem g_7_52 : (Jvm.Cond.code ({ cls := "BundleHouseModel", name := "small", desc := "()I" } : Jvm.MethodName) prog_14_method_8_code (2 : Nat) (Option.some Jvm.ClassFile.FieldType.int)) ∈ GT := gt_of (ts_7 (List.mem_of_getElem? (i := 52) rfl)) rfl
theorem g_7_53 : (Jvm.Cond.methodLink "BundleHouseModel" (138 : Nat) ({ cls := "BundleHouseModel", name := "four", desc := "()I" } : Jvm.MethodName)) ∈ GT := gt_of (ts_7 (List.mem_of_getElem? (i := 53) rfl)) rfl
theorem g_7_55 : (Jvm.Cond.instanceMethod ({ cls := "BundleHouseModel", name := "four", desc := "()I" } : Jvm.MethodName)) ∈ GT := gt_of (ts_7 (List.mem_of_getElem? (i := 55) rfl)) rfl
theorem g_7_56 : (Jvm.Cond.code ({ cls := "BundleHouseModel", name := "four", desc := "()I" } : Jvm.MethodName) prog_14_method_9_code (3 : Nat) (Option.some Jvm.ClassFile.FieldType.int)) ∈ GT := gt_of (ts_7 (List.mem_of_getElem? (i := 56) rfl)) rfl
theorem g_7_57 : (Jvm.Cond.methodLink "BundleHouseModel" (156 : Nat) ({ cls := "BundleHouseModel", name := "is", desc := "(II)Z" } : Jvm.MethodName)) ∈ GT := gt_of (ts_7 (List.mem_of_getElem? (i := 57) rfl)) rfl
theorem g_7_59 : (Jvm.Cond.instanceMethod ({ cls := "BundleHouseModel", name := "is", desc := "(II)Z" } : Jvm.MethodName)) ∈ GT := gt_of (ts_7 (List.mem_of_getElem? (i := 59) rfl)) rfl
theorem g_7_6 : (Jvm.Cond.instanceMethod ({ cls := "BundleHouseModel", name := "feed", desc := "(IIIII)Z" } : Jvm.MethodName)) ∈ GT := gt_of (ts_7 (List.mem_of_getElem? (i := 6) rfl)) rfl
theorem g_7_60 : (Jvm.Cond.code ({ cls := "BundleHouseModel", name := "is", desc := "(II)Z" } : Jvm.MethodName) prog_14_method_11_code (3 : Nat) (Option.some Jvm.ClassFile.FieldType.boolean)) ∈ GT := gt_of (ts_7 (List.mem_of_getElem? (i := 60) rfl)) rfl
theorem g_7_61 : (Jvm.Cond.methodLink "BundleHouseModel" (170 : Nat) ({ cls := "BundleHouseModel", name := "right", desc := "(I)Z" } : Jvm.MethodName)) ∈ GT := gt_of (ts_7 (List.mem_of_getElem? (i := 61) rfl)) rfl
theorem g_7_63 : (Jvm.Cond.instanceMethod ({ cls := "BundleHouseModel", name := "right", desc := "(I)Z" } : Jvm.MethodName)) ∈ GT := gt_of (ts_7 (List.mem_of_getElem? (i := 63) rfl)) rfl
theorem g_7_64 : (Jvm.Cond.code ({ cls := "BundleHouseModel", name := "right", desc := "(I)Z" } : Jvm.MethodName) prog_14_method_13_code (2 : Nat) (Option.some Jvm.ClassFile.FieldType.boolean)) ∈ GT := gt_of (ts_7 (List.mem_of_getElem? (i := 64) rfl)) rfl
theorem g_7_65 : (Jvm.Cond.methodLink "BundleHouseModel" (173 : Nat) ({ cls := "BundleHouseModel", name := "second", desc := "()Z" } : Jvm.MethodName)) ∈ GT := gt_of (ts_7 (List.mem_of_getElem? (i := 65) rfl)) rfl
theorem g_7_67 : (Jvm.Cond.instanceMethod ({ cls := "BundleHouseModel", name := "second", desc := "()Z" } : Jvm.MethodName)) ∈ GT := gt_of (ts_7 (List.mem_of_getElem? (i := 67) rfl)) rfl
theorem g_7_68 : (Jvm.Cond.code ({ cls := "BundleHouseModel", name := "second", desc := "()Z" } : Jvm.MethodName) prog_14_method_17_code (2 : Nat) (Option.some Jvm.ClassFile.FieldType.boolean)) ∈ GT := gt_of (ts_7 (List.mem_of_getElem? (i := 68) rfl)) rfl
theorem g_7_69 : (Jvm.Cond.methodLink "BundleHouseModel" (177 : Nat) ({ cls := "BundleHouseModel", name := "alone", desc := "(IZ)Z" } : Jvm.MethodName)) ∈ GT := gt_of (ts_7 (List.mem_of_getElem? (i := 69) rfl)) rfl
theorem g_7_7 : (Jvm.Cond.selects "BundleHouseModel" ({ cls := "BundleHouseModel", name := "feed", desc := "(IIIII)Z" } : Jvm.MethodName) ({ cls := "BundleHouseModel", name := "feed", desc := "(IIIII)Z" } : Jvm.MethodName)) ∈ GT := gt_of (ts_7 (List.mem_of_getElem? (i := 7) rfl)) rfl
theorem g_7_71 : (Jvm.Cond.instanceMethod ({ cls := "BundleHouseModel", name := "alone", desc := "(IZ)Z" } : Jvm.MethodName)) ∈ GT := gt_of (ts_7 (List.mem_of_getElem? (i := 71) rfl)) rfl
theorem g_7_72 : (Jvm.Cond.code ({ cls := "BundleHouseModel", name := "alone", desc := "(IZ)Z" } : Jvm.MethodName) prog_14_method_14_code (3 : Nat) (Option.some Jvm.ClassFile.FieldType.boolean)) ∈ GT := gt_of (ts_7 (List.mem_of_getElem? (i := 72) rfl)) rfl
theorem g_7_73 : (Jvm.Cond.methodLink "BundleHouseModel" (191 : Nat) ({ cls := "BundleHouseModel", name := "isService", desc := "(I)Z" } : Jvm.MethodName)) ∈ GT := gt_of (ts_7 (List.mem_of_getElem? (i := 73) rfl)) rfl
theorem g_7_74 : (Jvm.Cond.static ({ cls := "BundleHouseModel", name := "isService", desc := "(I)Z" } : Jvm.MethodName)) ∈ GT := gt_of (ts_7 (List.mem_of_getElem? (i := 74) rfl)) rfl
theorem g_7_75 : (Jvm.Cond.code ({ cls := "BundleHouseModel", name := "isService", desc := "(I)Z" } : Jvm.MethodName) prog_14_method_20_code (1 : Nat) (Option.some Jvm.ClassFile.FieldType.boolean)) ∈ GT := gt_of (ts_7 (List.mem_of_getElem? (i := 75) rfl)) rfl
theorem g_7_76 : (Jvm.Cond.methodLink "BundleHouseModel" (198 : Nat) ({ cls := "BundleHouseModel", name := "becomes", desc := "([II)V" } : Jvm.MethodName)) ∈ GT := gt_of (ts_7 (List.mem_of_getElem? (i := 76) rfl)) rfl
theorem g_7_78 : (Jvm.Cond.instanceMethod ({ cls := "BundleHouseModel", name := "becomes", desc := "([II)V" } : Jvm.MethodName)) ∈ GT := gt_of (ts_7 (List.mem_of_getElem? (i := 78) rfl)) rfl
theorem g_7_79 : (Jvm.Cond.code ({ cls := "BundleHouseModel", name := "becomes", desc := "([II)V" } : Jvm.MethodName) prog_14_method_22_code (4 : Nat) (Option.none : Option Jvm.ClassFile.FieldType)) ∈ GT := gt_of (ts_7 (List.mem_of_getElem? (i := 79) rfl)) rfl
theorem g_7_8 : (Jvm.Cond.code ({ cls := "BundleHouseModel", name := "feed", desc := "(IIIII)Z" } : Jvm.MethodName) prog_14_method_4_code (6 : Nat) (Option.some Jvm.ClassFile.FieldType.boolean)) ∈ GT := gt_of (ts_7 (List.mem_of_getElem? (i := 8) rfl)) rfl
theorem g_7_81 : (Jvm.Cond.instanceMethod ({ cls := "BundleHouseModel", name := "fault", desc := "(I)I" } : Jvm.MethodName)) ∈ GT := gt_of (ts_7 (List.mem_of_getElem? (i := 81) rfl)) rfl
theorem g_7_82 : (Jvm.Cond.selects "BundleHouseModel" ({ cls := "BundleHouseModel", name := "fault", desc := "(I)I" } : Jvm.MethodName) ({ cls := "BundleHouseModel", name := "fault", desc := "(I)I" } : Jvm.MethodName)) ∈ GT := gt_of (ts_7 (List.mem_of_getElem? (i := 82) rfl)) rfl
theorem g_7_83 : (Jvm.Cond.code ({ cls := "BundleHouseModel", name := "fault", desc := "(I)I" } : Jvm.MethodName) prog_14_method_23_code (2 : Nat) (Option.some Jvm.ClassFile.FieldType.int)) ∈ GT := gt_of (ts_7 (List.mem_of_getElem? (i := 83) rfl)) rfl
theorem g_7_85 : (Jvm.Cond.instanceMethod ({ cls := "BundleHouseModel", name := "plain", desc := "(IIIIII)I" } : Jvm.MethodName)) ∈ GT := gt_of (ts_7 (List.mem_of_getElem? (i := 85) rfl)) rfl
theorem g_7_86 : (Jvm.Cond.selects "BundleHouseModel" ({ cls := "BundleHouseModel", name := "plain", desc := "(IIIIII)I" } : Jvm.MethodName) ({ cls := "BundleHouseModel", name := "plain", desc := "(IIIIII)I" } : Jvm.MethodName)) ∈ GT := gt_of (ts_7 (List.mem_of_getElem? (i := 86) rfl)) rfl
theorem g_7_87 : (Jvm.Cond.code ({ cls := "BundleHouseModel", name := "plain", desc := "(IIIIII)I" } : Jvm.MethodName) prog_14_method_30_code (8 : Nat) (Option.some Jvm.ClassFile.FieldType.int)) ∈ GT := gt_of (ts_7 (List.mem_of_getElem? (i := 87) rfl)) rfl
theorem g_7_88 : (Jvm.Cond.methodLink "BundleHouseModel" (211 : Nat) ({ cls := "BundleHouseModel", name := "hasForm", desc := "(II)Z" } : Jvm.MethodName)) ∈ GT := gt_of (ts_7 (List.mem_of_getElem? (i := 88) rfl)) rfl
theorem g_7_89 : (Jvm.Cond.static ({ cls := "BundleHouseModel", name := "hasForm", desc := "(II)Z" } : Jvm.MethodName)) ∈ GT := gt_of (ts_7 (List.mem_of_getElem? (i := 89) rfl)) rfl
theorem g_7_9 : (Jvm.Cond.methodLink "BundleHouseModel" (111 : Nat) ({ cls := "BundleHouseModel", name := "word", desc := "(I)V" } : Jvm.MethodName)) ∈ GT := gt_of (ts_7 (List.mem_of_getElem? (i := 9) rfl)) rfl
theorem g_7_90 : (Jvm.Cond.code ({ cls := "BundleHouseModel", name := "hasForm", desc := "(II)Z" } : Jvm.MethodName) prog_14_method_26_code (2 : Nat) (Option.some Jvm.ClassFile.FieldType.boolean)) ∈ GT := gt_of (ts_7 (List.mem_of_getElem? (i := 90) rfl)) rfl
theorem g_7_91 : (Jvm.Cond.methodLink "BundleHouseModel" (214 : Nat) ({ cls := "BundleHouseModel", name := "formHasR", desc := "(I)Z" } : Jvm.MethodName)) ∈ GT := gt_of (ts_7 (List.mem_of_getElem? (i := 91) rfl)) rfl
theorem g_7_92 : (Jvm.Cond.static ({ cls := "BundleHouseModel", name := "formHasR", desc := "(I)Z" } : Jvm.MethodName)) ∈ GT := gt_of (ts_7 (List.mem_of_getElem? (i := 92) rfl)) rfl
theorem g_7_93 : (Jvm.Cond.code ({ cls := "BundleHouseModel", name := "formHasR", desc := "(I)Z" } : Jvm.MethodName) prog_14_method_27_code (1 : Nat) (Option.some Jvm.ClassFile.FieldType.boolean)) ∈ GT := gt_of (ts_7 (List.mem_of_getElem? (i := 93) rfl)) rfl
theorem g_7_94 : (Jvm.Cond.methodLink "BundleHouseModel" (217 : Nat) ({ cls := "BundleHouseModel", name := "isRegister", desc := "(I)Z" } : Jvm.MethodName)) ∈ GT := gt_of (ts_7 (List.mem_of_getElem? (i := 94) rfl)) rfl
theorem g_7_95 : (Jvm.Cond.static ({ cls := "BundleHouseModel", name := "isRegister", desc := "(I)Z" } : Jvm.MethodName)) ∈ GT := gt_of (ts_7 (List.mem_of_getElem? (i := 95) rfl)) rfl
theorem g_7_96 : (Jvm.Cond.code ({ cls := "BundleHouseModel", name := "isRegister", desc := "(I)Z" } : Jvm.MethodName) prog_14_method_24_code (1 : Nat) (Option.some Jvm.ClassFile.FieldType.boolean)) ∈ GT := gt_of (ts_7 (List.mem_of_getElem? (i := 96) rfl)) rfl
theorem g_7_97 : (Jvm.Cond.methodLink "BundleHouseModel" (220 : Nat) ({ cls := "BundleHouseModel", name := "formHasMemory", desc := "(I)Z" } : Jvm.MethodName)) ∈ GT := gt_of (ts_7 (List.mem_of_getElem? (i := 97) rfl)) rfl
theorem g_7_98 : (Jvm.Cond.static ({ cls := "BundleHouseModel", name := "formHasMemory", desc := "(I)Z" } : Jvm.MethodName)) ∈ GT := gt_of (ts_7 (List.mem_of_getElem? (i := 98) rfl)) rfl
theorem g_7_99 : (Jvm.Cond.code ({ cls := "BundleHouseModel", name := "formHasMemory", desc := "(I)Z" } : Jvm.MethodName) prog_14_method_28_code (1 : Nat) (Option.some Jvm.ClassFile.FieldType.boolean)) ∈ GT := gt_of (ts_7 (List.mem_of_getElem? (i := 99) rfl)) rfl
theorem g_8_1 : (Jvm.Cond.instanceMethod ({ cls := "BundleHouseModel", name := "serves", desc := "(I)V" } : Jvm.MethodName)) ∈ GT := gt_of (ts_8 (List.mem_of_getElem? (i := 1) rfl)) rfl
theorem g_8_10 : (Jvm.Cond.code ({ cls := "BundleHouseModel", name := "pop", desc := "()I" } : Jvm.MethodName) prog_14_method_77_code (2 : Nat) (Option.some Jvm.ClassFile.FieldType.int)) ∈ GT := gt_of (ts_8 (List.mem_of_getElem? (i := 10) rfl)) rfl
theorem g_8_100 : (Jvm.Cond.methodLink "BundleHouseModel" (448 : Nat) ({ cls := "BundleHouseModel", name := "readsUnknown", desc := "()Z" } : Jvm.MethodName)) ∈ GT := gt_of (ts_8 (List.mem_of_getElem? (i := 100) rfl)) rfl
theorem g_8_102 : (Jvm.Cond.instanceMethod ({ cls := "BundleHouseModel", name := "readsUnknown", desc := "()Z" } : Jvm.MethodName)) ∈ GT := gt_of (ts_8 (List.mem_of_getElem? (i := 102) rfl)) rfl
theorem g_8_103 : (Jvm.Cond.code ({ cls := "BundleHouseModel", name := "readsUnknown", desc := "()Z" } : Jvm.MethodName) prog_14_method_88_code (2 : Nat) (Option.some Jvm.ClassFile.FieldType.boolean)) ∈ GT := gt_of (ts_8 (List.mem_of_getElem? (i := 103) rfl)) rfl
theorem g_8_104 : (Jvm.Cond.methodLink "BundleHouseModel" (430 : Nat) ({ cls := "BundleHouseModel", name := "memoryUnknown", desc := "()Z" } : Jvm.MethodName)) ∈ GT := gt_of (ts_8 (List.mem_of_getElem? (i := 104) rfl)) rfl
theorem g_8_106 : (Jvm.Cond.instanceMethod ({ cls := "BundleHouseModel", name := "memoryUnknown", desc := "()Z" } : Jvm.MethodName)) ∈ GT := gt_of (ts_8 (List.mem_of_getElem? (i := 106) rfl)) rfl
theorem g_8_107 : (Jvm.Cond.code ({ cls := "BundleHouseModel", name := "memoryUnknown", desc := "()Z" } : Jvm.MethodName) prog_14_method_87_code (1 : Nat) (Option.some Jvm.ClassFile.FieldType.boolean)) ∈ GT := gt_of (ts_8 (List.mem_of_getElem? (i := 107) rfl)) rfl
theorem g_8_108 : (Jvm.Cond.methodLink "BundleHouseModel" (427 : Nat) ({ cls := "BundleHouseModel", name := "isUnknown", desc := "(I)Z" } : Jvm.MethodName)) ∈ GT := gt_of (ts_8 (List.mem_of_getElem? (i := 108) rfl)) rfl
theorem g_8_11 : (Jvm.Cond.methodLink "BundleHouseModel" (378 : Nat) ({ cls := "BundleHouseModel", name := "load", desc := "(I)I" } : Jvm.MethodName)) ∈ GT := gt_of (ts_8 (List.mem_of_getElem? (i := 11) rfl)) rfl
theorem g_8_110 : (Jvm.Cond.instanceMethod ({ cls := "BundleHouseModel", name := "isUnknown", desc := "(I)Z" } : Jvm.MethodName)) ∈ GT := gt_of (ts_8 (List.mem_of_getElem? (i := 110) rfl)) rfl
theorem g_8_111 : (Jvm.Cond.code ({ cls := "BundleHouseModel", name := "isUnknown", desc := "(I)Z" } : Jvm.MethodName) prog_14_method_86_code (2 : Nat) (Option.some Jvm.ClassFile.FieldType.boolean)) ∈ GT := gt_of (ts_8 (List.mem_of_getElem? (i := 111) rfl)) rfl
theorem g_8_112 : (Jvm.Cond.methodLink "BundleHouseModel" (439 : Nat) ({ cls := "BundleHouseModel", name := "namesUnknown", desc := "(I)Z" } : Jvm.MethodName)) ∈ GT := gt_of (ts_8 (List.mem_of_getElem? (i := 112) rfl)) rfl
theorem g_8_114 : (Jvm.Cond.instanceMethod ({ cls := "BundleHouseModel", name := "namesUnknown", desc := "(I)Z" } : Jvm.MethodName)) ∈ GT := gt_of (ts_8 (List.mem_of_getElem? (i := 114) rfl)) rfl
theorem g_8_115 : (Jvm.Cond.code ({ cls := "BundleHouseModel", name := "namesUnknown", desc := "(I)Z" } : Jvm.MethodName) prog_14_method_89_code (6 : Nat) (Option.some Jvm.ClassFile.FieldType.boolean)) ∈ GT := gt_of (ts_8 (List.mem_of_getElem? (i := 115) rfl)) rfl
theorem g_8_116 : (Jvm.Cond.methodLink "BundleHouseModel" (445 : Nat) ({ cls := "BundleHouseModel", name := "forgetFlags", desc := "()V" } : Jvm.MethodName)) ∈ GT := gt_of (ts_8 (List.mem_of_getElem? (i := 116) rfl)) rfl
theorem g_8_118 : (Jvm.Cond.instanceMethod ({ cls := "BundleHouseModel", name := "forgetFlags", desc := "()V" } : Jvm.MethodName)) ∈ GT := gt_of (ts_8 (List.mem_of_getElem? (i := 118) rfl)) rfl
theorem g_8_119 : (Jvm.Cond.code ({ cls := "BundleHouseModel", name := "forgetFlags", desc := "()V" } : Jvm.MethodName) prog_14_method_90_code (2 : Nat) (Option.none : Option Jvm.ClassFile.FieldType)) ∈ GT := gt_of (ts_8 (List.mem_of_getElem? (i := 119) rfl)) rfl
theorem g_8_121 : (Jvm.Cond.instanceMethod ({ cls := "BundleHouseModel", name := "state", desc := "(ZI)I" } : Jvm.MethodName)) ∈ GT := gt_of (ts_8 (List.mem_of_getElem? (i := 121) rfl)) rfl
theorem g_8_122 : (Jvm.Cond.selects "BundleHouseModel" ({ cls := "BundleHouseModel", name := "state", desc := "(ZI)I" } : Jvm.MethodName) ({ cls := "BundleHouseModel", name := "state", desc := "(ZI)I" } : Jvm.MethodName)) ∈ GT := gt_of (ts_8 (List.mem_of_getElem? (i := 122) rfl)) rfl
theorem g_8_123 : (Jvm.Cond.code ({ cls := "BundleHouseModel", name := "state", desc := "(ZI)I" } : Jvm.MethodName) prog_14_method_94_code (4 : Nat) (Option.some Jvm.ClassFile.FieldType.int)) ∈ GT := gt_of (ts_8 (List.mem_of_getElem? (i := 123) rfl)) rfl
theorem g_8_125 : (Jvm.Cond.instanceMethod ({ cls := "BundleHouseModel", name := "data", desc := "(ZI)I" } : Jvm.MethodName)) ∈ GT := gt_of (ts_8 (List.mem_of_getElem? (i := 125) rfl)) rfl
theorem g_8_126 : (Jvm.Cond.selects "BundleHouseModel" ({ cls := "BundleHouseModel", name := "data", desc := "(ZI)I" } : Jvm.MethodName) ({ cls := "BundleHouseModel", name := "data", desc := "(ZI)I" } : Jvm.MethodName)) ∈ GT := gt_of (ts_8 (List.mem_of_getElem? (i := 126) rfl)) rfl
theorem g_8_127 : (Jvm.Cond.code ({ cls := "BundleHouseModel", name := "data", desc := "(ZI)I" } : Jvm.MethodName) prog_14_method_95_code (4 : Nat) (Option.some Jvm.ClassFile.FieldType.int)) ∈ GT := gt_of (ts_8 (List.mem_of_getElem? (i := 127) rfl)) rfl
theorem g_8_129 : (Jvm.Cond.instanceMethod ({ cls := "BundleHouseModel", name := "output", desc := "(ZI)I" } : Jvm.MethodName)) ∈ GT := gt_of (ts_8 (List.mem_of_getElem? (i := 129) rfl)) rfl
theorem g_8_13 : (Jvm.Cond.instanceMethod ({ cls := "BundleHouseModel", name := "load", desc := "(I)I" } : Jvm.MethodName)) ∈ GT := gt_of (ts_8 (List.mem_of_getElem? (i := 13) rfl)) rfl
theorem g_8_130 : (Jvm.Cond.selects "BundleHouseModel" ({ cls := "BundleHouseModel", name := "output", desc := "(ZI)I" } : Jvm.MethodName) ({ cls := "BundleHouseModel", name := "output", desc := "(ZI)I" } : Jvm.MethodName)) ∈ GT := gt_of (ts_8 (List.mem_of_getElem? (i := 130) rfl)) rfl
theorem g_8_131 : (Jvm.Cond.code ({ cls := "BundleHouseModel", name := "output", desc := "(ZI)I" } : Jvm.MethodName) prog_14_method_96_code (4 : Nat) (Option.some Jvm.ClassFile.FieldType.int)) ∈ GT := gt_of (ts_8 (List.mem_of_getElem? (i := 131) rfl)) rfl
theorem g_8_14 : (Jvm.Cond.code ({ cls := "BundleHouseModel", name := "load", desc := "(I)I" } : Jvm.MethodName) prog_14_method_62_code (4 : Nat) (Option.some Jvm.ClassFile.FieldType.int)) ∈ GT := gt_of (ts_8 (List.mem_of_getElem? (i := 14) rfl)) rfl
theorem g_8_15 : (Jvm.Cond.methodLink "BundleHouseModel" (405 : Nat) ({ cls := "BundleHouseModel", name := "takes", desc := "(IIIIII)V" } : Jvm.MethodName)) ∈ GT := gt_of (ts_8 (List.mem_of_getElem? (i := 15) rfl)) rfl
theorem g_8_17 : (Jvm.Cond.instanceMethod ({ cls := "BundleHouseModel", name := "takes", desc := "(IIIIII)V" } : Jvm.MethodName)) ∈ GT := gt_of (ts_8 (List.mem_of_getElem? (i := 17) rfl)) rfl
theorem g_8_18 : (Jvm.Cond.code ({ cls := "BundleHouseModel", name := "takes", desc := "(IIIIII)V" } : Jvm.MethodName) prog_14_method_79_code (7 : Nat) (Option.none : Option Jvm.ClassFile.FieldType)) ∈ GT := gt_of (ts_8 (List.mem_of_getElem? (i := 18) rfl)) rfl
theorem g_8_19 : (Jvm.Cond.methodLink "BundleHouseModel" (409 : Nat) ({ cls := "BundleHouseModel", name := "wants", desc := "()Z" } : Jvm.MethodName)) ∈ GT := gt_of (ts_8 (List.mem_of_getElem? (i := 19) rfl)) rfl
theorem g_8_2 : (Jvm.Cond.code ({ cls := "BundleHouseModel", name := "serves", desc := "(I)V" } : Jvm.MethodName) prog_14_method_80_code (2 : Nat) (Option.none : Option Jvm.ClassFile.FieldType)) ∈ GT := gt_of (ts_8 (List.mem_of_getElem? (i := 2) rfl)) rfl
theorem g_8_21 : (Jvm.Cond.instanceMethod ({ cls := "BundleHouseModel", name := "wants", desc := "()Z" } : Jvm.MethodName)) ∈ GT := gt_of (ts_8 (List.mem_of_getElem? (i := 21) rfl)) rfl
theorem g_8_22 : (Jvm.Cond.code ({ cls := "BundleHouseModel", name := "wants", desc := "()Z" } : Jvm.MethodName) prog_14_method_75_code (1 : Nat) (Option.some Jvm.ClassFile.FieldType.boolean)) ∈ GT := gt_of (ts_8 (List.mem_of_getElem? (i := 22) rfl)) rfl
theorem g_8_23 : (Jvm.Cond.methodLink "BundleHouseModel" (359 : Nat) ({ cls := "BundleHouseModel", name := "isOnMemory", desc := "()Z" } : Jvm.MethodName)) ∈ GT := gt_of (ts_8 (List.mem_of_getElem? (i := 23) rfl)) rfl
theorem g_8_25 : (Jvm.Cond.instanceMethod ({ cls := "BundleHouseModel", name := "isOnMemory", desc := "()Z" } : Jvm.MethodName)) ∈ GT := gt_of (ts_8 (List.mem_of_getElem? (i := 25) rfl)) rfl
theorem g_8_26 : (Jvm.Cond.code ({ cls := "BundleHouseModel", name := "isOnMemory", desc := "()Z" } : Jvm.MethodName) prog_14_method_74_code (1 : Nat) (Option.some Jvm.ClassFile.FieldType.boolean)) ∈ GT := gt_of (ts_8 (List.mem_of_getElem? (i := 26) rfl)) rfl
theorem g_8_27 : (Jvm.Cond.methodLink "BundleHouseModel" (368 : Nat) ({ cls := "BundleHouseModel", name := "place1", desc := "(II)I" } : Jvm.MethodName)) ∈ GT := gt_of (ts_8 (List.mem_of_getElem? (i := 27) rfl)) rfl
theorem g_8_29 : (Jvm.Cond.instanceMethod ({ cls := "BundleHouseModel", name := "place1", desc := "(II)I" } : Jvm.MethodName)) ∈ GT := gt_of (ts_8 (List.mem_of_getElem? (i := 29) rfl)) rfl
theorem g_8_3 : (Jvm.Cond.methodLink "BundleHouseModel" (375 : Nat) ({ cls := "BundleHouseModel", name := "setReg", desc := "(II)V" } : Jvm.MethodName)) ∈ GT := gt_of (ts_8 (List.mem_of_getElem? (i := 3) rfl)) rfl
theorem g_8_30 : (Jvm.Cond.code ({ cls := "BundleHouseModel", name := "place1", desc := "(II)I" } : Jvm.MethodName) prog_14_method_64_code (5 : Nat) (Option.some Jvm.ClassFile.FieldType.int)) ∈ GT := gt_of (ts_8 (List.mem_of_getElem? (i := 30) rfl)) rfl
theorem g_8_31 : (Jvm.Cond.methodLink "BundleHouseModel" (412 : Nat) ({ cls := "BundleHouseModel", name := "holds", desc := "(I)Z" } : Jvm.MethodName)) ∈ GT := gt_of (ts_8 (List.mem_of_getElem? (i := 31) rfl)) rfl
theorem g_8_33 : (Jvm.Cond.instanceMethod ({ cls := "BundleHouseModel", name := "holds", desc := "(I)Z" } : Jvm.MethodName)) ∈ GT := gt_of (ts_8 (List.mem_of_getElem? (i := 33) rfl)) rfl
theorem g_8_34 : (Jvm.Cond.code ({ cls := "BundleHouseModel", name := "holds", desc := "(I)Z" } : Jvm.MethodName) prog_14_method_73_code (5 : Nat) (Option.some Jvm.ClassFile.FieldType.boolean)) ∈ GT := gt_of (ts_8 (List.mem_of_getElem? (i := 34) rfl)) rfl
theorem g_8_35 : (Jvm.Cond.methodLink "BundleHouseModel" (387 : Nat) ({ cls := "BundleHouseModel", name := "push", desc := "(I)V" } : Jvm.MethodName)) ∈ GT := gt_of (ts_8 (List.mem_of_getElem? (i := 35) rfl)) rfl
theorem g_8_37 : (Jvm.Cond.instanceMethod ({ cls := "BundleHouseModel", name := "push", desc := "(I)V" } : Jvm.MethodName)) ∈ GT := gt_of (ts_8 (List.mem_of_getElem? (i := 37) rfl)) rfl
theorem g_8_38 : (Jvm.Cond.code ({ cls := "BundleHouseModel", name := "push", desc := "(I)V" } : Jvm.MethodName) prog_14_method_76_code (3 : Nat) (Option.none : Option Jvm.ClassFile.FieldType)) ∈ GT := gt_of (ts_8 (List.mem_of_getElem? (i := 38) rfl)) rfl
theorem g_8_39 : (Jvm.Cond.methodLink "BundleHouseModel" (372 : Nat) ({ cls := "BundleHouseModel", name := "store", desc := "(II)V" } : Jvm.MethodName)) ∈ GT := gt_of (ts_8 (List.mem_of_getElem? (i := 39) rfl)) rfl
theorem g_8_41 : (Jvm.Cond.instanceMethod ({ cls := "BundleHouseModel", name := "store", desc := "(II)V" } : Jvm.MethodName)) ∈ GT := gt_of (ts_8 (List.mem_of_getElem? (i := 41) rfl)) rfl
theorem g_8_42 : (Jvm.Cond.code ({ cls := "BundleHouseModel", name := "store", desc := "(II)V" } : Jvm.MethodName) prog_14_method_63_code (4 : Nat) (Option.none : Option Jvm.ClassFile.FieldType)) ∈ GT := gt_of (ts_8 (List.mem_of_getElem? (i := 42) rfl)) rfl
theorem g_8_43 : (Jvm.Cond.methodLink "BundleHouseModel" (415 : Nat) ({ cls := "BundleHouseModel", name := "does", desc := "()V" } : Jvm.MethodName)) ∈ GT := gt_of (ts_8 (List.mem_of_getElem? (i := 43) rfl)) rfl
theorem g_8_45 : (Jvm.Cond.instanceMethod ({ cls := "BundleHouseModel", name := "does", desc := "()V" } : Jvm.MethodName)) ∈ GT := gt_of (ts_8 (List.mem_of_getElem? (i := 45) rfl)) rfl
theorem g_8_46 : (Jvm.Cond.code ({ cls := "BundleHouseModel", name := "does", desc := "()V" } : Jvm.MethodName) prog_14_method_78_code (6 : Nat) (Option.none : Option Jvm.ClassFile.FieldType)) ∈ GT := gt_of (ts_8 (List.mem_of_getElem? (i := 46) rfl)) rfl
theorem g_8_47 : (Jvm.Cond.methodLink "BundleHouseModel" (393 : Nat) ({ cls := "BundleHouseModel", name := "worked", desc := "(III)I" } : Jvm.MethodName)) ∈ GT := gt_of (ts_8 (List.mem_of_getElem? (i := 47) rfl)) rfl
theorem g_8_49 : (Jvm.Cond.instanceMethod ({ cls := "BundleHouseModel", name := "worked", desc := "(III)I" } : Jvm.MethodName)) ∈ GT := gt_of (ts_8 (List.mem_of_getElem? (i := 49) rfl)) rfl
theorem g_8_5 : (Jvm.Cond.instanceMethod ({ cls := "BundleHouseModel", name := "setReg", desc := "(II)V" } : Jvm.MethodName)) ∈ GT := gt_of (ts_8 (List.mem_of_getElem? (i := 5) rfl)) rfl
theorem g_8_50 : (Jvm.Cond.code ({ cls := "BundleHouseModel", name := "worked", desc := "(III)I" } : Jvm.MethodName) prog_14_method_72_code (8 : Nat) (Option.some Jvm.ClassFile.FieldType.int)) ∈ GT := gt_of (ts_8 (List.mem_of_getElem? (i := 50) rfl)) rfl
theorem g_8_51 : (Jvm.Cond.methodLink "BundleHouseModel" (337 : Nat) ({ cls := "BundleHouseModel", name := "added", desc := "(III)I" } : Jvm.MethodName)) ∈ GT := gt_of (ts_8 (List.mem_of_getElem? (i := 51) rfl)) rfl
theorem g_8_53 : (Jvm.Cond.instanceMethod ({ cls := "BundleHouseModel", name := "added", desc := "(III)I" } : Jvm.MethodName)) ∈ GT := gt_of (ts_8 (List.mem_of_getElem? (i := 53) rfl)) rfl
theorem g_8_54 : (Jvm.Cond.code ({ cls := "BundleHouseModel", name := "added", desc := "(III)I" } : Jvm.MethodName) prog_14_method_68_code (9 : Nat) (Option.some Jvm.ClassFile.FieldType.int)) ∈ GT := gt_of (ts_8 (List.mem_of_getElem? (i := 54) rfl)) rfl
theorem g_8_55 : (Jvm.Cond.constantLong "BundleHouseModel" (328 : Nat) (4294967295 : Int64)) ∈ GT := gt_of (ts_8 (List.mem_of_getElem? (i := 55) rfl)) rfl
theorem g_8_56 : (Jvm.Cond.methodLink "BundleHouseModel" (330 : Nat) ({ cls := "BundleHouseModel", name := "setFlags", desc := "(ZZ)V" } : Jvm.MethodName)) ∈ GT := gt_of (ts_8 (List.mem_of_getElem? (i := 56) rfl)) rfl
theorem g_8_58 : (Jvm.Cond.instanceMethod ({ cls := "BundleHouseModel", name := "setFlags", desc := "(ZZ)V" } : Jvm.MethodName)) ∈ GT := gt_of (ts_8 (List.mem_of_getElem? (i := 58) rfl)) rfl
theorem g_8_59 : (Jvm.Cond.code ({ cls := "BundleHouseModel", name := "setFlags", desc := "(ZZ)V" } : Jvm.MethodName) prog_14_method_67_code (3 : Nat) (Option.none : Option Jvm.ClassFile.FieldType)) ∈ GT := gt_of (ts_8 (List.mem_of_getElem? (i := 59) rfl)) rfl
theorem g_8_6 : (Jvm.Cond.code ({ cls := "BundleHouseModel", name := "setReg", desc := "(II)V" } : Jvm.MethodName) prog_14_method_60_code (3 : Nat) (Option.none : Option Jvm.ClassFile.FieldType)) ∈ GT := gt_of (ts_8 (List.mem_of_getElem? (i := 6) rfl)) rfl
theorem g_8_60 : (Jvm.Cond.methodLink "BundleHouseModel" (334 : Nat) ({ cls := "BundleHouseModel", name := "result", desc := "(I)V" } : Jvm.MethodName)) ∈ GT := gt_of (ts_8 (List.mem_of_getElem? (i := 60) rfl)) rfl
theorem g_8_62 : (Jvm.Cond.instanceMethod ({ cls := "BundleHouseModel", name := "result", desc := "(I)V" } : Jvm.MethodName)) ∈ GT := gt_of (ts_8 (List.mem_of_getElem? (i := 62) rfl)) rfl
theorem g_8_63 : (Jvm.Cond.code ({ cls := "BundleHouseModel", name := "result", desc := "(I)V" } : Jvm.MethodName) prog_14_method_66_code (2 : Nat) (Option.none : Option Jvm.ClassFile.FieldType)) ∈ GT := gt_of (ts_8 (List.mem_of_getElem? (i := 63) rfl)) rfl
theorem g_8_64 : (Jvm.Cond.methodLink "BundleHouseModel" (341 : Nat) ({ cls := "BundleHouseModel", name := "plainResult", desc := "(I)I" } : Jvm.MethodName)) ∈ GT := gt_of (ts_8 (List.mem_of_getElem? (i := 64) rfl)) rfl
theorem g_8_66 : (Jvm.Cond.instanceMethod ({ cls := "BundleHouseModel", name := "plainResult", desc := "(I)I" } : Jvm.MethodName)) ∈ GT := gt_of (ts_8 (List.mem_of_getElem? (i := 66) rfl)) rfl
theorem g_8_67 : (Jvm.Cond.code ({ cls := "BundleHouseModel", name := "plainResult", desc := "(I)I" } : Jvm.MethodName) prog_14_method_70_code (2 : Nat) (Option.some Jvm.ClassFile.FieldType.int)) ∈ GT := gt_of (ts_8 (List.mem_of_getElem? (i := 67) rfl)) rfl
theorem g_8_68 : (Jvm.Cond.methodLink "BundleHouseModel" (344 : Nat) ({ cls := "BundleHouseModel", name := "taken", desc := "(III)I" } : Jvm.MethodName)) ∈ GT := gt_of (ts_8 (List.mem_of_getElem? (i := 68) rfl)) rfl
theorem g_8_7 : (Jvm.Cond.methodLink "BundleHouseModel" (390 : Nat) ({ cls := "BundleHouseModel", name := "pop", desc := "()I" } : Jvm.MethodName)) ∈ GT := gt_of (ts_8 (List.mem_of_getElem? (i := 7) rfl)) rfl
theorem g_8_70 : (Jvm.Cond.instanceMethod ({ cls := "BundleHouseModel", name := "taken", desc := "(III)I" } : Jvm.MethodName)) ∈ GT := gt_of (ts_8 (List.mem_of_getElem? (i := 70) rfl)) rfl
theorem g_8_71 : (Jvm.Cond.code ({ cls := "BundleHouseModel", name := "taken", desc := "(III)I" } : Jvm.MethodName) prog_14_method_69_code (7 : Nat) (Option.some Jvm.ClassFile.FieldType.int)) ∈ GT := gt_of (ts_8 (List.mem_of_getElem? (i := 71) rfl)) rfl
theorem g_8_72 : (Jvm.Cond.methodLink "BundleHouseModel" (347 : Nat) ({ cls := "BundleHouseModel", name := "shifted", desc := "(III)I" } : Jvm.MethodName)) ∈ GT := gt_of (ts_8 (List.mem_of_getElem? (i := 72) rfl)) rfl
theorem g_8_74 : (Jvm.Cond.instanceMethod ({ cls := "BundleHouseModel", name := "shifted", desc := "(III)I" } : Jvm.MethodName)) ∈ GT := gt_of (ts_8 (List.mem_of_getElem? (i := 74) rfl)) rfl
theorem g_8_75 : (Jvm.Cond.code ({ cls := "BundleHouseModel", name := "shifted", desc := "(III)I" } : Jvm.MethodName) prog_14_method_71_code (8 : Nat) (Option.some Jvm.ClassFile.FieldType.int)) ∈ GT := gt_of (ts_8 (List.mem_of_getElem? (i := 75) rfl)) rfl
theorem g_8_77 : (Jvm.Cond.instanceMethod ({ cls := "BundleHouseModel", name := "walk", desc := "(I)I" } : Jvm.MethodName)) ∈ GT := gt_of (ts_8 (List.mem_of_getElem? (i := 77) rfl)) rfl
theorem g_8_78 : (Jvm.Cond.selects "BundleHouseModel" ({ cls := "BundleHouseModel", name := "walk", desc := "(I)I" } : Jvm.MethodName) ({ cls := "BundleHouseModel", name := "walk", desc := "(I)I" } : Jvm.MethodName)) ∈ GT := gt_of (ts_8 (List.mem_of_getElem? (i := 78) rfl)) rfl
theorem g_8_79 : (Jvm.Cond.code ({ cls := "BundleHouseModel", name := "walk", desc := "(I)I" } : Jvm.MethodName) prog_14_method_83_code (3 : Nat) (Option.some Jvm.ClassFile.FieldType.int)) ∈ GT := gt_of (ts_8 (List.mem_of_getElem? (i := 79) rfl)) rfl
theorem g_8_80 : (Jvm.Cond.methodLink "BundleHouseModel" (418 : Nat) ({ cls := "BundleHouseModel", name := "passed", desc := "(I)I" } : Jvm.MethodName)) ∈ GT := gt_of (ts_8 (List.mem_of_getElem? (i := 80) rfl)) rfl
theorem g_8_82 : (Jvm.Cond.instanceMethod ({ cls := "BundleHouseModel", name := "passed", desc := "(I)I" } : Jvm.MethodName)) ∈ GT := gt_of (ts_8 (List.mem_of_getElem? (i := 82) rfl)) rfl
theorem g_8_83 : (Jvm.Cond.code ({ cls := "BundleHouseModel", name := "passed", desc := "(I)I" } : Jvm.MethodName) prog_14_method_84_code (3 : Nat) (Option.some Jvm.ClassFile.FieldType.int)) ∈ GT := gt_of (ts_8 (List.mem_of_getElem? (i := 83) rfl)) rfl
theorem g_8_84 : (Jvm.Cond.methodLink "BundleHouseModel" (424 : Nat) ({ cls := "BundleHouseModel", name := "stride", desc := "()I" } : Jvm.MethodName)) ∈ GT := gt_of (ts_8 (List.mem_of_getElem? (i := 84) rfl)) rfl
theorem g_8_86 : (Jvm.Cond.instanceMethod ({ cls := "BundleHouseModel", name := "stride", desc := "()I" } : Jvm.MethodName)) ∈ GT := gt_of (ts_8 (List.mem_of_getElem? (i := 86) rfl)) rfl
theorem g_8_87 : (Jvm.Cond.code ({ cls := "BundleHouseModel", name := "stride", desc := "()I" } : Jvm.MethodName) prog_14_method_91_code (5 : Nat) (Option.some Jvm.ClassFile.FieldType.int)) ∈ GT := gt_of (ts_8 (List.mem_of_getElem? (i := 87) rfl)) rfl
theorem g_8_88 : (Jvm.Cond.methodLink "BundleHouseModel" (433 : Nat) ({ cls := "BundleHouseModel", name := "atService", desc := "(I)I" } : Jvm.MethodName)) ∈ GT := gt_of (ts_8 (List.mem_of_getElem? (i := 88) rfl)) rfl
theorem g_8_9 : (Jvm.Cond.instanceMethod ({ cls := "BundleHouseModel", name := "pop", desc := "()I" } : Jvm.MethodName)) ∈ GT := gt_of (ts_8 (List.mem_of_getElem? (i := 9) rfl)) rfl
theorem g_8_90 : (Jvm.Cond.instanceMethod ({ cls := "BundleHouseModel", name := "atService", desc := "(I)I" } : Jvm.MethodName)) ∈ GT := gt_of (ts_8 (List.mem_of_getElem? (i := 90) rfl)) rfl
theorem g_8_91 : (Jvm.Cond.code ({ cls := "BundleHouseModel", name := "atService", desc := "(I)I" } : Jvm.MethodName) prog_14_method_93_code (4 : Nat) (Option.some Jvm.ClassFile.FieldType.int)) ∈ GT := gt_of (ts_8 (List.mem_of_getElem? (i := 91) rfl)) rfl
theorem g_8_92 : (Jvm.Cond.methodLink "BundleHouseModel" (442 : Nat) ({ cls := "BundleHouseModel", name := "leads", desc := "(I)I" } : Jvm.MethodName)) ∈ GT := gt_of (ts_8 (List.mem_of_getElem? (i := 92) rfl)) rfl
theorem g_8_94 : (Jvm.Cond.instanceMethod ({ cls := "BundleHouseModel", name := "leads", desc := "(I)I" } : Jvm.MethodName)) ∈ GT := gt_of (ts_8 (List.mem_of_getElem? (i := 94) rfl)) rfl
theorem g_8_95 : (Jvm.Cond.code ({ cls := "BundleHouseModel", name := "leads", desc := "(I)I" } : Jvm.MethodName) prog_14_method_85_code (4 : Nat) (Option.some Jvm.ClassFile.FieldType.int)) ∈ GT := gt_of (ts_8 (List.mem_of_getElem? (i := 95) rfl)) rfl
theorem g_8_96 : (Jvm.Cond.methodLink "BundleHouseModel" (436 : Nat) ({ cls := "BundleHouseModel", name := "plainStride", desc := "(I)I" } : Jvm.MethodName)) ∈ GT := gt_of (ts_8 (List.mem_of_getElem? (i := 96) rfl)) rfl
theorem g_8_98 : (Jvm.Cond.instanceMethod ({ cls := "BundleHouseModel", name := "plainStride", desc := "(I)I" } : Jvm.MethodName)) ∈ GT := gt_of (ts_8 (List.mem_of_getElem? (i := 98) rfl)) rfl
theorem g_8_99 : (Jvm.Cond.code ({ cls := "BundleHouseModel", name := "plainStride", desc := "(I)I" } : Jvm.MethodName) prog_14_method_92_code (3 : Nat) (Option.some Jvm.ClassFile.FieldType.int)) ∈ GT := gt_of (ts_8 (List.mem_of_getElem? (i := 99) rfl)) rfl
theorem gs_1_0 : Cond.selects "BundleHouse$Policy" ⟨"BundleHouse$Policy", "bundleFault", "(I)I"⟩ ⟨"BundleHouse$Policy", "bundleFault", "(I)I"⟩ ∈ GT := gt_of (ps_1 (q := (⟨"BundleHouse$Policy", "bundleFault", "(I)I"⟩, 3)) (List.mem_of_getElem? (i := 0) rfl)) rfl
theorem gs_1_1 : Cond.selects "BundleHouse$Reader" ⟨"BundleHouse$Reader", "take", "()I"⟩ ⟨"BundleHouse$Reader", "take", "()I"⟩ ∈ GT := gt_of (ps_1 (q := (⟨"BundleHouse$Reader", "take", "()I"⟩, 10)) (List.mem_of_getElem? (i := 1) rfl)) rfl
theorem gs_1_10 : Cond.selects "BundleHouse$Reader" ⟨"BundleHouse$Reader", "giveForm", "(I)V"⟩ ⟨"BundleHouse$Reader", "giveForm", "(I)V"⟩ ∈ GT := gt_of (ps_1 (q := (⟨"BundleHouse$Reader", "giveForm", "(I)V"⟩, 10)) (List.mem_of_getElem? (i := 10) rfl)) rfl
theorem gs_1_11 : Cond.selects "BundleHouse$Reader" ⟨"BundleHouse$Reader", "groupOp", "(I)I"⟩ ⟨"BundleHouse$Reader", "groupOp", "(I)I"⟩ ∈ GT := gt_of (ps_1 (q := (⟨"BundleHouse$Reader", "groupOp", "(I)I"⟩, 10)) (List.mem_of_getElem? (i := 11) rfl)) rfl
theorem gs_1_12 : Cond.selects "BundleHouse$Reader" ⟨"BundleHouse$Reader", "takeNumber", "(I)I"⟩ ⟨"BundleHouse$Reader", "takeNumber", "(I)I"⟩ ∈ GT := gt_of (ps_1 (q := (⟨"BundleHouse$Reader", "takeNumber", "(I)I"⟩, 10)) (List.mem_of_getElem? (i := 12) rfl)) rfl
theorem gs_1_13 : Cond.selects "BundleHouse$Policy" ⟨"BundleHouse$Policy", "faultOfFound", "(III)I"⟩ ⟨"BundleHouse$Policy", "faultOfFound", "(III)I"⟩ ∈ GT := gt_of (ps_1 (q := (⟨"BundleHouse$Policy", "faultOfFound", "(III)I"⟩, 3)) (List.mem_of_getElem? (i := 13) rfl)) rfl
theorem gs_1_14 : Cond.selects "BundleHouse$Policy" ⟨"BundleHouse$Policy", "maskedRegister", "(I)I"⟩ ⟨"BundleHouse$Policy", "maskedRegister", "(I)I"⟩ ∈ GT := gt_of (ps_1 (q := (⟨"BundleHouse$Policy", "maskedRegister", "(I)I"⟩, 3)) (List.mem_of_getElem? (i := 14) rfl)) rfl
theorem gs_1_15 : Cond.selects "BundleHouse$Policy" ⟨"BundleHouse$Policy", "targetFault", "()I"⟩ ⟨"BundleHouse$Policy", "targetFault", "()I"⟩ ∈ GT := gt_of (ps_1 (q := (⟨"BundleHouse$Policy", "targetFault", "()I"⟩, 3)) (List.mem_of_getElem? (i := 15) rfl)) rfl
theorem gs_1_2 : Cond.selects "BundleHouse$Reader" ⟨"BundleHouse$Reader", "shapeBehind15", "(I)V"⟩ ⟨"BundleHouse$Reader", "shapeBehind15", "(I)V"⟩ ∈ GT := gt_of (ps_1 (q := (⟨"BundleHouse$Reader", "shapeBehind15", "(I)V"⟩, 10)) (List.mem_of_getElem? (i := 2) rfl)) rfl
theorem gs_1_3 : Cond.selects "BundleHouse$Reader" ⟨"BundleHouse$Reader", "expectOperand", "(III)V"⟩ ⟨"BundleHouse$Reader", "expectOperand", "(III)V"⟩ ∈ GT := gt_of (ps_1 (q := (⟨"BundleHouse$Reader", "expectOperand", "(III)V"⟩, 10)) (List.mem_of_getElem? (i := 3) rfl)) rfl
theorem gs_1_4 : Cond.selects "BundleHouse$Reader" ⟨"BundleHouse$Reader", "expectBranch", "(II)V"⟩ ⟨"BundleHouse$Reader", "expectBranch", "(II)V"⟩ ∈ GT := gt_of (ps_1 (q := (⟨"BundleHouse$Reader", "expectBranch", "(II)V"⟩, 10)) (List.mem_of_getElem? (i := 4) rfl)) rfl
theorem gs_1_5 : Cond.selects "BundleHouse$Reader" ⟨"BundleHouse$Reader", "expect", "(IIII)V"⟩ ⟨"BundleHouse$Reader", "expect", "(IIII)V"⟩ ∈ GT := gt_of (ps_1 (q := (⟨"BundleHouse$Reader", "expect", "(IIII)V"⟩, 10)) (List.mem_of_getElem? (i := 5) rfl)) rfl
theorem gs_1_6 : Cond.selects "BundleHouse$Reader" ⟨"BundleHouse$Reader", "shape", "(I)V"⟩ ⟨"BundleHouse$Reader", "shape", "(I)V"⟩ ∈ GT := gt_of (ps_1 (q := (⟨"BundleHouse$Reader", "shape", "(I)V"⟩, 10)) (List.mem_of_getElem? (i := 6) rfl)) rfl
theorem gs_1_7 : Cond.selects "BundleHouse$Reader" ⟨"BundleHouse$Reader", "shapeArithmetic", "(I)V"⟩ ⟨"BundleHouse$Reader", "shapeArithmetic", "(I)V"⟩ ∈ GT := gt_of (ps_1 (q := (⟨"BundleHouse$Reader", "shapeArithmetic", "(I)V"⟩, 10)) (List.mem_of_getElem? (i := 7) rfl)) rfl
theorem gs_1_8 : Cond.selects "BundleHouse$Reader" ⟨"BundleHouse$Reader", "shapeOther", "(I)V"⟩ ⟨"BundleHouse$Reader", "shapeOther", "(I)V"⟩ ∈ GT := gt_of (ps_1 (q := (⟨"BundleHouse$Reader", "shapeOther", "(I)V"⟩, 10)) (List.mem_of_getElem? (i := 8) rfl)) rfl
theorem gs_1_9 : Cond.selects "BundleHouse$Reader" ⟨"BundleHouse$Reader", "takeOperand", "()V"⟩ ⟨"BundleHouse$Reader", "takeOperand", "()V"⟩ ∈ GT := gt_of (ps_1 (q := (⟨"BundleHouse$Reader", "takeOperand", "()V"⟩, 10)) (List.mem_of_getElem? (i := 9) rfl)) rfl
theorem gs_2_0 : Cond.selects "BundleHouse$Policy" ⟨"BundleHouse$Policy", "isAstray", "(I)Z"⟩ ⟨"BundleHouse$Policy", "isAstray", "(I)Z"⟩ ∈ GT := gt_of (ps_2 (q := (⟨"BundleHouse$Policy", "isAstray", "(I)Z"⟩, 3)) (List.mem_of_getElem? (i := 0) rfl)) rfl
theorem gs_2_1 : Cond.selects "BundleHouse" ⟨"BundleHouse", "forgetRuns", "()V"⟩ ⟨"BundleHouse", "forgetRuns", "()V"⟩ ∈ GT := gt_of (ps_2 (q := (⟨"BundleHouse", "forgetRuns", "()V"⟩, 16)) (List.mem_of_getElem? (i := 1) rfl)) rfl
theorem gs_2_10 : Cond.selects "BundleHouse$Builder" ⟨"BundleHouse$Builder", "layItem", "(I)I"⟩ ⟨"BundleHouse$Builder", "layItem", "(I)I"⟩ ∈ GT := gt_of (ps_2 (q := (⟨"BundleHouse$Builder", "layItem", "(I)I"⟩, 7)) (List.mem_of_getElem? (i := 10) rfl)) rfl
theorem gs_2_11 : Cond.selects "BundleHouse$Builder" ⟨"BundleHouse$Builder", "layLast", "(I)I"⟩ ⟨"BundleHouse$Builder", "layLast", "(I)I"⟩ ∈ GT := gt_of (ps_2 (q := (⟨"BundleHouse$Builder", "layLast", "(I)I"⟩, 7)) (List.mem_of_getElem? (i := 11) rfl)) rfl
theorem gs_2_12 : Cond.selects "BundleHouse$Builder" ⟨"BundleHouse$Builder", "leftInBundle", "()I"⟩ ⟨"BundleHouse$Builder", "leftInBundle", "()I"⟩ ∈ GT := gt_of (ps_2 (q := (⟨"BundleHouse$Builder", "leftInBundle", "()I"⟩, 7)) (List.mem_of_getElem? (i := 12) rfl)) rfl
theorem gs_2_13 : Cond.selects "BundleHouse$Builder" ⟨"BundleHouse$Builder", "layPiece", "(I)I"⟩ ⟨"BundleHouse$Builder", "layPiece", "(I)I"⟩ ∈ GT := gt_of (ps_2 (q := (⟨"BundleHouse$Builder", "layPiece", "(I)I"⟩, 7)) (List.mem_of_getElem? (i := 13) rfl)) rfl
theorem gs_2_14 : Cond.selects "BundleHouse$Builder" ⟨"BundleHouse$Builder", "lengthen", "()Z"⟩ ⟨"BundleHouse$Builder", "lengthen", "()Z"⟩ ∈ GT := gt_of (ps_2 (q := (⟨"BundleHouse$Builder", "lengthen", "()Z"⟩, 7)) (List.mem_of_getElem? (i := 14) rfl)) rfl
theorem gs_2_15 : Cond.selects "BundleHouse$Builder" ⟨"BundleHouse$Builder", "distance", "(I)I"⟩ ⟨"BundleHouse$Builder", "distance", "(I)I"⟩ ∈ GT := gt_of (ps_2 (q := (⟨"BundleHouse$Builder", "distance", "(I)I"⟩, 7)) (List.mem_of_getElem? (i := 15) rfl)) rfl
theorem gs_2_2 : Cond.selects "BundleHouse$Builder" ⟨"BundleHouse$Builder", "faultOf", "(I)I"⟩ ⟨"BundleHouse$Builder", "faultOf", "(I)I"⟩ ∈ GT := gt_of (ps_2 (q := (⟨"BundleHouse$Builder", "faultOf", "(I)I"⟩, 7)) (List.mem_of_getElem? (i := 2) rfl)) rfl
theorem gs_2_3 : Cond.selects "BundleHouse$Builder" ⟨"BundleHouse$Builder", "measure", "()V"⟩ ⟨"BundleHouse$Builder", "measure", "()V"⟩ ∈ GT := gt_of (ps_2 (q := (⟨"BundleHouse$Builder", "measure", "()V"⟩, 7)) (List.mem_of_getElem? (i := 3) rfl)) rfl
theorem gs_2_4 : Cond.selects "BundleHouse$Piece" ⟨"BundleHouse$Piece", "putLead", "(LBundleHouse$Instruction;)V"⟩ ⟨"BundleHouse$Piece", "putLead", "(LBundleHouse$Instruction;)V"⟩ ∈ GT := gt_of (ps_2 (q := (⟨"BundleHouse$Piece", "putLead", "(LBundleHouse$Instruction;)V"⟩, 2)) (List.mem_of_getElem? (i := 4) rfl)) rfl
theorem gs_2_5 : Cond.selects "BundleHouse$Piece" ⟨"BundleHouse$Piece", "putMovLead", "(LBundleHouse$Instruction;)V"⟩ ⟨"BundleHouse$Piece", "putMovLead", "(LBundleHouse$Instruction;)V"⟩ ∈ GT := gt_of (ps_2 (q := (⟨"BundleHouse$Piece", "putMovLead", "(LBundleHouse$Instruction;)V"⟩, 2)) (List.mem_of_getElem? (i := 5) rfl)) rfl
theorem gs_2_6 : Cond.selects "BundleHouse$Piece" ⟨"BundleHouse$Piece", "putArithmeticLead", "(LBundleHouse$Instruction;)V"⟩ ⟨"BundleHouse$Piece", "putArithmeticLead", "(LBundleHouse$Instruction;)V"⟩ ∈ GT := gt_of (ps_2 (q := (⟨"BundleHouse$Piece", "putArithmeticLead", "(LBundleHouse$Instruction;)V"⟩, 2)) (List.mem_of_getElem? (i := 6) rfl)) rfl
theorem gs_2_7 : Cond.selects "BundleHouse$Piece" ⟨"BundleHouse$Piece", "putOperand", "(LBundleHouse$Instruction;)V"⟩ ⟨"BundleHouse$Piece", "putOperand", "(LBundleHouse$Instruction;)V"⟩ ∈ GT := gt_of (ps_2 (q := (⟨"BundleHouse$Piece", "putOperand", "(LBundleHouse$Instruction;)V"⟩, 2)) (List.mem_of_getElem? (i := 7) rfl)) rfl
theorem gs_2_8 : Cond.selects "BundleHouse$Piece" ⟨"BundleHouse$Piece", "putValue", "(LBundleHouse$Instruction;)V"⟩ ⟨"BundleHouse$Piece", "putValue", "(LBundleHouse$Instruction;)V"⟩ ∈ GT := gt_of (ps_2 (q := (⟨"BundleHouse$Piece", "putValue", "(LBundleHouse$Instruction;)V"⟩, 2)) (List.mem_of_getElem? (i := 8) rfl)) rfl
theorem gs_2_9 : Cond.selects "BundleHouse$Builder" ⟨"BundleHouse$Builder", "layAll", "()V"⟩ ⟨"BundleHouse$Builder", "layAll", "()V"⟩ ∈ GT := gt_of (ps_2 (q := (⟨"BundleHouse$Builder", "layAll", "()V"⟩, 7)) (List.mem_of_getElem? (i := 9) rfl)) rfl
theorem gs_3_0 : Cond.selects "BundleHouse$Builder" ⟨"BundleHouse$Builder", "labelPlace", "(I)I"⟩ ⟨"BundleHouse$Builder", "labelPlace", "(I)I"⟩ ∈ GT := gt_of (ps_3 (q := (⟨"BundleHouse$Builder", "labelPlace", "(I)I"⟩, 7)) (List.mem_of_getElem? (i := 0) rfl)) rfl
theorem gs_3_1 : Cond.selects "BundleHouse$Builder" ⟨"BundleHouse$Builder", "wholeSize", "()I"⟩ ⟨"BundleHouse$Builder", "wholeSize", "()I"⟩ ∈ GT := gt_of (ps_3 (q := (⟨"BundleHouse$Builder", "wholeSize", "()I"⟩, 7)) (List.mem_of_getElem? (i := 1) rfl)) rfl
theorem gs_3_10 : Cond.selects "BundleHouse$Machine" ⟨"BundleHouse$Machine", "addressOf", "(LBundleHouse$Instruction;)I"⟩ ⟨"BundleHouse$Machine", "addressOf", "(LBundleHouse$Instruction;)I"⟩ ∈ GT := gt_of (ps_3 (q := (⟨"BundleHouse$Machine", "addressOf", "(LBundleHouse$Instruction;)I"⟩, 14)) (List.mem_of_getElem? (i := 10) rfl)) rfl
theorem gs_3_11 : Cond.selects "BundleHouse$Machine" ⟨"BundleHouse$Machine", "lacksWord", "(LBundleHouse$Instruction;I)Z"⟩ ⟨"BundleHouse$Machine", "lacksWord", "(LBundleHouse$Instruction;I)Z"⟩ ∈ GT := gt_of (ps_3 (q := (⟨"BundleHouse$Machine", "lacksWord", "(LBundleHouse$Instruction;I)Z"⟩, 14)) (List.mem_of_getElem? (i := 11) rfl)) rfl
theorem gs_3_12 : Cond.selects "BundleHouse$Machine" ⟨"BundleHouse$Machine", "rightOf", "(LBundleHouse$Instruction;I)I"⟩ ⟨"BundleHouse$Machine", "rightOf", "(LBundleHouse$Instruction;I)I"⟩ ∈ GT := gt_of (ps_3 (q := (⟨"BundleHouse$Machine", "rightOf", "(LBundleHouse$Instruction;I)I"⟩, 14)) (List.mem_of_getElem? (i := 12) rfl)) rfl
theorem gs_3_13 : Cond.selects "BundleHouse$Machine" ⟨"BundleHouse$Machine", "giveLeft", "(LBundleHouse$Instruction;II)V"⟩ ⟨"BundleHouse$Machine", "giveLeft", "(LBundleHouse$Instruction;II)V"⟩ ∈ GT := gt_of (ps_3 (q := (⟨"BundleHouse$Machine", "giveLeft", "(LBundleHouse$Instruction;II)V"⟩, 14)) (List.mem_of_getElem? (i := 13) rfl)) rfl
theorem gs_3_14 : Cond.selects "BundleHouse$Machine" ⟨"BundleHouse$Machine", "leftOf", "(LBundleHouse$Instruction;I)I"⟩ ⟨"BundleHouse$Machine", "leftOf", "(LBundleHouse$Instruction;I)I"⟩ ∈ GT := gt_of (ps_3 (q := (⟨"BundleHouse$Machine", "leftOf", "(LBundleHouse$Instruction;I)I"⟩, 14)) (List.mem_of_getElem? (i := 14) rfl)) rfl
theorem gs_3_15 : Cond.selects "BundleHouse$Flags" ⟨"BundleHouse$Flags", "sum", "(III)I"⟩ ⟨"BundleHouse$Flags", "sum", "(III)I"⟩ ∈ GT := gt_of (ps_3 (q := (⟨"BundleHouse$Flags", "sum", "(III)I"⟩, 4)) (List.mem_of_getElem? (i := 15) rfl)) rfl
theorem gs_3_2 : Cond.selects "BundleHouse$Program" ⟨"BundleHouse$Program", "giveLanding", "(II)V"⟩ ⟨"BundleHouse$Program", "giveLanding", "(II)V"⟩ ∈ GT := gt_of (ps_3 (q := (⟨"BundleHouse$Program", "giveLanding", "(II)V"⟩, 14)) (List.mem_of_getElem? (i := 2) rfl)) rfl
theorem gs_3_3 : Cond.selects "BundleHouse$Builder" ⟨"BundleHouse$Builder", "makePiece", "(I)V"⟩ ⟨"BundleHouse$Builder", "makePiece", "(I)V"⟩ ∈ GT := gt_of (ps_3 (q := (⟨"BundleHouse$Builder", "makePiece", "(I)V"⟩, 7)) (List.mem_of_getElem? (i := 3) rfl)) rfl
theorem gs_3_4 : Cond.selects "BundleHouse$Builder" ⟨"BundleHouse$Builder", "makeJump", "(II)V"⟩ ⟨"BundleHouse$Builder", "makeJump", "(II)V"⟩ ∈ GT := gt_of (ps_3 (q := (⟨"BundleHouse$Builder", "makeJump", "(II)V"⟩, 7)) (List.mem_of_getElem? (i := 4) rfl)) rfl
theorem gs_3_6 : Cond.selects "BundleHouse$Runner" ⟨"BundleHouse$Runner", "serve", "(I)I"⟩ ⟨"BundleHouse$Runner", "serve", "(I)I"⟩ ∈ GT := gt_of (ps_3 (q := (⟨"BundleHouse$Runner", "serve", "(I)I"⟩, 3)) (List.mem_of_getElem? (i := 6) rfl)) rfl
theorem gs_3_7 : Cond.selects "BundleHouse$Runner" ⟨"BundleHouse$Runner", "step", "(I)I"⟩ ⟨"BundleHouse$Runner", "step", "(I)I"⟩ ∈ GT := gt_of (ps_3 (q := (⟨"BundleHouse$Runner", "step", "(I)I"⟩, 3)) (List.mem_of_getElem? (i := 7) rfl)) rfl
theorem gs_3_8 : Cond.selects "BundleHouse$Runner" ⟨"BundleHouse$Runner", "turnOff", "(LBundleHouse$Instruction;I)I"⟩ ⟨"BundleHouse$Runner", "turnOff", "(LBundleHouse$Instruction;I)I"⟩ ∈ GT := gt_of (ps_3 (q := (⟨"BundleHouse$Runner", "turnOff", "(LBundleHouse$Instruction;I)I"⟩, 3)) (List.mem_of_getElem? (i := 8) rfl)) rfl
theorem gs_3_9 : Cond.selects "BundleHouse$Machine" ⟨"BundleHouse$Machine", "readsUnknown", "(LBundleHouse$Instruction;)Z"⟩ ⟨"BundleHouse$Machine", "readsUnknown", "(LBundleHouse$Instruction;)Z"⟩ ∈ GT := gt_of (ps_3 (q := (⟨"BundleHouse$Machine", "readsUnknown", "(LBundleHouse$Instruction;)Z"⟩, 14)) (List.mem_of_getElem? (i := 9) rfl)) rfl
theorem gs_4_0 : Cond.selects "BundleHouse$Flags" ⟨"BundleHouse$Flags", "narrowed", "(J)I"⟩ ⟨"BundleHouse$Flags", "narrowed", "(J)I"⟩ ∈ GT := gt_of (ps_4 (q := (⟨"BundleHouse$Flags", "narrowed", "(J)I"⟩, 4)) (List.mem_of_getElem? (i := 0) rfl)) rfl
theorem gs_4_1 : Cond.selects "BundleHouse$Flags" ⟨"BundleHouse$Flags", "difference", "(III)I"⟩ ⟨"BundleHouse$Flags", "difference", "(III)I"⟩ ∈ GT := gt_of (ps_4 (q := (⟨"BundleHouse$Flags", "difference", "(III)I"⟩, 4)) (List.mem_of_getElem? (i := 1) rfl)) rfl
theorem gs_4_10 : Cond.selects "BundleHouse$Walker" ⟨"BundleHouse$Walker", "callTo", "(I)I"⟩ ⟨"BundleHouse$Walker", "callTo", "(I)I"⟩ ∈ GT := gt_of (ps_4 (q := (⟨"BundleHouse$Walker", "callTo", "(I)I"⟩, 4)) (List.mem_of_getElem? (i := 10) rfl)) rfl
theorem gs_4_11 : Cond.selects "BundleHouse$Walker" ⟨"BundleHouse$Walker", "addressBehind", "()I"⟩ ⟨"BundleHouse$Walker", "addressBehind", "()I"⟩ ∈ GT := gt_of (ps_4 (q := (⟨"BundleHouse$Walker", "addressBehind", "()I"⟩, 4)) (List.mem_of_getElem? (i := 11) rfl)) rfl
theorem gs_4_12 : Cond.selects "BundleHouse$Walker" ⟨"BundleHouse$Walker", "goByRegister", "(IZ)I"⟩ ⟨"BundleHouse$Walker", "goByRegister", "(IZ)I"⟩ ∈ GT := gt_of (ps_4 (q := (⟨"BundleHouse$Walker", "goByRegister", "(IZ)I"⟩, 4)) (List.mem_of_getElem? (i := 12) rfl)) rfl
theorem gs_4_13 : Cond.selects "BundleHouse$Walker" ⟨"BundleHouse$Walker", "goBack", "()I"⟩ ⟨"BundleHouse$Walker", "goBack", "()I"⟩ ∈ GT := gt_of (ps_4 (q := (⟨"BundleHouse$Walker", "goBack", "()I"⟩, 4)) (List.mem_of_getElem? (i := 13) rfl)) rfl
theorem gs_4_14 : Cond.selects "BundleHouseModel" ⟨"BundleHouseModel", "word", "(I)V"⟩ ⟨"BundleHouseModel", "word", "(I)V"⟩ ∈ GT := gt_of (ps_4 (q := (⟨"BundleHouseModel", "word", "(I)V"⟩, 63)) (List.mem_of_getElem? (i := 14) rfl)) rfl
theorem gs_4_15 : Cond.selects "BundleHouseModel" ⟨"BundleHouseModel", "keeps", "([II[I)Z"⟩ ⟨"BundleHouseModel", "keeps", "([II[I)Z"⟩ ∈ GT := gt_of (ps_4 (q := (⟨"BundleHouseModel", "keeps", "([II[I)Z"⟩, 63)) (List.mem_of_getElem? (i := 15) rfl)) rfl
theorem gs_4_2 : Cond.selects "BundleHouse$Flags" ⟨"BundleHouse$Flags", "product", "(II)I"⟩ ⟨"BundleHouse$Flags", "product", "(II)I"⟩ ∈ GT := gt_of (ps_4 (q := (⟨"BundleHouse$Flags", "product", "(II)I"⟩, 4)) (List.mem_of_getElem? (i := 2) rfl)) rfl
theorem gs_4_3 : Cond.selects "BundleHouse$Flags" ⟨"BundleHouse$Flags", "shifted", "(III)I"⟩ ⟨"BundleHouse$Flags", "shifted", "(III)I"⟩ ∈ GT := gt_of (ps_4 (q := (⟨"BundleHouse$Flags", "shifted", "(III)I"⟩, 4)) (List.mem_of_getElem? (i := 3) rfl)) rfl
theorem gs_4_4 : Cond.selects "BundleHouse$Flags" ⟨"BundleHouse$Flags", "logic", "(III)I"⟩ ⟨"BundleHouse$Flags", "logic", "(III)I"⟩ ∈ GT := gt_of (ps_4 (q := (⟨"BundleHouse$Flags", "logic", "(III)I"⟩, 4)) (List.mem_of_getElem? (i := 4) rfl)) rfl
theorem gs_4_5 : Cond.selects "BundleHouse$Walker" ⟨"BundleHouse$Walker", "serve", "(I)I"⟩ ⟨"BundleHouse$Walker", "serve", "(I)I"⟩ ∈ GT := gt_of (ps_4 (q := (⟨"BundleHouse$Walker", "serve", "(I)I"⟩, 4)) (List.mem_of_getElem? (i := 5) rfl)) rfl
theorem gs_4_6 : Cond.selects "BundleHouse$Walker" ⟨"BundleHouse$Walker", "standStill", "(I)I"⟩ ⟨"BundleHouse$Walker", "standStill", "(I)I"⟩ ∈ GT := gt_of (ps_4 (q := (⟨"BundleHouse$Walker", "standStill", "(I)I"⟩, 4)) (List.mem_of_getElem? (i := 6) rfl)) rfl
theorem gs_4_7 : Cond.selects "BundleHouse$Walker" ⟨"BundleHouse$Walker", "goTo", "(I)I"⟩ ⟨"BundleHouse$Walker", "goTo", "(I)I"⟩ ∈ GT := gt_of (ps_4 (q := (⟨"BundleHouse$Walker", "goTo", "(I)I"⟩, 4)) (List.mem_of_getElem? (i := 7) rfl)) rfl
theorem gs_4_8 : Cond.selects "BundleHouse$Walker" ⟨"BundleHouse$Walker", "stepPlain", "()I"⟩ ⟨"BundleHouse$Walker", "stepPlain", "()I"⟩ ∈ GT := gt_of (ps_4 (q := (⟨"BundleHouse$Walker", "stepPlain", "()I"⟩, 4)) (List.mem_of_getElem? (i := 8) rfl)) rfl
theorem gs_4_9 : Cond.selects "BundleHouse$Walker" ⟨"BundleHouse$Walker", "stepFlow", "(III)I"⟩ ⟨"BundleHouse$Walker", "stepFlow", "(III)I"⟩ ∈ GT := gt_of (ps_4 (q := (⟨"BundleHouse$Walker", "stepFlow", "(III)I"⟩, 4)) (List.mem_of_getElem? (i := 9) rfl)) rfl
theorem gs_5_0 : Cond.selects "BundleHouseModel" ⟨"BundleHouseModel", "faults", "(II)Z"⟩ ⟨"BundleHouseModel", "faults", "(II)Z"⟩ ∈ GT := gt_of (ps_5 (q := (⟨"BundleHouseModel", "faults", "(II)Z"⟩, 63)) (List.mem_of_getElem? (i := 0) rfl)) rfl
theorem gs_5_1 : Cond.selects "BundleHouseModel" ⟨"BundleHouseModel", "decode", "([III)I"⟩ ⟨"BundleHouseModel", "decode", "([III)I"⟩ ∈ GT := gt_of (ps_5 (q := (⟨"BundleHouseModel", "decode", "([III)I"⟩, 63)) (List.mem_of_getElem? (i := 1) rfl)) rfl
theorem gs_5_10 : Cond.selects "BundleHouseModel" ⟨"BundleHouseModel", "second", "()Z"⟩ ⟨"BundleHouseModel", "second", "()Z"⟩ ∈ GT := gt_of (ps_5 (q := (⟨"BundleHouseModel", "second", "()Z"⟩, 63)) (List.mem_of_getElem? (i := 10) rfl)) rfl
theorem gs_5_11 : Cond.selects "BundleHouseModel" ⟨"BundleHouseModel", "alone", "(IZ)Z"⟩ ⟨"BundleHouseModel", "alone", "(IZ)Z"⟩ ∈ GT := gt_of (ps_5 (q := (⟨"BundleHouseModel", "alone", "(IZ)Z"⟩, 63)) (List.mem_of_getElem? (i := 11) rfl)) rfl
theorem gs_5_12 : Cond.selects "BundleHouseModel" ⟨"BundleHouseModel", "becomes", "([II)V"⟩ ⟨"BundleHouseModel", "becomes", "([II)V"⟩ ∈ GT := gt_of (ps_5 (q := (⟨"BundleHouseModel", "becomes", "([II)V"⟩, 63)) (List.mem_of_getElem? (i := 12) rfl)) rfl
theorem gs_5_13 : Cond.selects "BundleHouseModel" ⟨"BundleHouseModel", "firstWrong", "()I"⟩ ⟨"BundleHouseModel", "firstWrong", "()I"⟩ ∈ GT := gt_of (ps_5 (q := (⟨"BundleHouseModel", "firstWrong", "()I"⟩, 63)) (List.mem_of_getElem? (i := 13) rfl)) rfl
theorem gs_5_14 : Cond.selects "BundleHouseModel" ⟨"BundleHouseModel", "layAll", "()V"⟩ ⟨"BundleHouseModel", "layAll", "()V"⟩ ∈ GT := gt_of (ps_5 (q := (⟨"BundleHouseModel", "layAll", "()V"⟩, 63)) (List.mem_of_getElem? (i := 14) rfl)) rfl
theorem gs_5_15 : Cond.selects "BundleHouseModel" ⟨"BundleHouseModel", "lay", "(IZ)I"⟩ ⟨"BundleHouseModel", "lay", "(IZ)I"⟩ ∈ GT := gt_of (ps_5 (q := (⟨"BundleHouseModel", "lay", "(IZ)I"⟩, 63)) (List.mem_of_getElem? (i := 15) rfl)) rfl
theorem gs_5_2 : Cond.selects "BundleHouseModel" ⟨"BundleHouseModel", "next", "()I"⟩ ⟨"BundleHouseModel", "next", "()I"⟩ ∈ GT := gt_of (ps_5 (q := (⟨"BundleHouseModel", "next", "()I"⟩, 63)) (List.mem_of_getElem? (i := 2) rfl)) rfl
theorem gs_5_3 : Cond.selects "BundleHouseModel" ⟨"BundleHouseModel", "known", "(I)Z"⟩ ⟨"BundleHouseModel", "known", "(I)Z"⟩ ∈ GT := gt_of (ps_5 (q := (⟨"BundleHouseModel", "known", "(I)Z"⟩, 63)) (List.mem_of_getElem? (i := 3) rfl)) rfl
theorem gs_5_4 : Cond.selects "BundleHouseModel" ⟨"BundleHouseModel", "left", "(I)Z"⟩ ⟨"BundleHouseModel", "left", "(I)Z"⟩ ∈ GT := gt_of (ps_5 (q := (⟨"BundleHouseModel", "left", "(I)Z"⟩, 63)) (List.mem_of_getElem? (i := 4) rfl)) rfl
theorem gs_5_5 : Cond.selects "BundleHouseModel" ⟨"BundleHouseModel", "told", "()V"⟩ ⟨"BundleHouseModel", "told", "()V"⟩ ∈ GT := gt_of (ps_5 (q := (⟨"BundleHouseModel", "told", "()V"⟩, 63)) (List.mem_of_getElem? (i := 5) rfl)) rfl
theorem gs_5_6 : Cond.selects "BundleHouseModel" ⟨"BundleHouseModel", "small", "()I"⟩ ⟨"BundleHouseModel", "small", "()I"⟩ ∈ GT := gt_of (ps_5 (q := (⟨"BundleHouseModel", "small", "()I"⟩, 63)) (List.mem_of_getElem? (i := 6) rfl)) rfl
theorem gs_5_7 : Cond.selects "BundleHouseModel" ⟨"BundleHouseModel", "four", "()I"⟩ ⟨"BundleHouseModel", "four", "()I"⟩ ∈ GT := gt_of (ps_5 (q := (⟨"BundleHouseModel", "four", "()I"⟩, 63)) (List.mem_of_getElem? (i := 7) rfl)) rfl
theorem gs_5_8 : Cond.selects "BundleHouseModel" ⟨"BundleHouseModel", "is", "(II)Z"⟩ ⟨"BundleHouseModel", "is", "(II)Z"⟩ ∈ GT := gt_of (ps_5 (q := (⟨"BundleHouseModel", "is", "(II)Z"⟩, 63)) (List.mem_of_getElem? (i := 8) rfl)) rfl
theorem gs_5_9 : Cond.selects "BundleHouseModel" ⟨"BundleHouseModel", "right", "(I)Z"⟩ ⟨"BundleHouseModel", "right", "(I)Z"⟩ ∈ GT := gt_of (ps_5 (q := (⟨"BundleHouseModel", "right", "(I)Z"⟩, 63)) (List.mem_of_getElem? (i := 9) rfl)) rfl
theorem gs_6_0 : Cond.selects "BundleHouseModel" ⟨"BundleHouseModel", "sizeOf", "(I)I"⟩ ⟨"BundleHouseModel", "sizeOf", "(I)I"⟩ ∈ GT := gt_of (ps_6 (q := (⟨"BundleHouseModel", "sizeOf", "(I)I"⟩, 63)) (List.mem_of_getElem? (i := 0) rfl)) rfl
theorem gs_6_1 : Cond.selects "BundleHouseModel" ⟨"BundleHouseModel", "encode", "(I)V"⟩ ⟨"BundleHouseModel", "encode", "(I)V"⟩ ∈ GT := gt_of (ps_6 (q := (⟨"BundleHouseModel", "encode", "(I)V"⟩, 63)) (List.mem_of_getElem? (i := 1) rfl)) rfl
theorem gs_6_10 : Cond.selects "BundleHouseModel" ⟨"BundleHouseModel", "putFar", "(I)V"⟩ ⟨"BundleHouseModel", "putFar", "(I)V"⟩ ∈ GT := gt_of (ps_6 (q := (⟨"BundleHouseModel", "putFar", "(I)V"⟩, 63)) (List.mem_of_getElem? (i := 10) rfl)) rfl
theorem gs_6_11 : Cond.selects "BundleHouseModel" ⟨"BundleHouseModel", "copyBytes", "(I)V"⟩ ⟨"BundleHouseModel", "copyBytes", "(I)V"⟩ ∈ GT := gt_of (ps_6 (q := (⟨"BundleHouseModel", "copyBytes", "(I)V"⟩, 63)) (List.mem_of_getElem? (i := 11) rfl)) rfl
theorem gs_6_12 : Cond.selects "BundleHouseModel" ⟨"BundleHouseModel", "putPair", "(II)V"⟩ ⟨"BundleHouseModel", "putPair", "(II)V"⟩ ∈ GT := gt_of (ps_6 (q := (⟨"BundleHouseModel", "putPair", "(II)V"⟩, 63)) (List.mem_of_getElem? (i := 12) rfl)) rfl
theorem gs_6_13 : Cond.selects "BundleHouseModel" ⟨"BundleHouseModel", "starting", "(I)V"⟩ ⟨"BundleHouseModel", "starting", "(I)V"⟩ ∈ GT := gt_of (ps_6 (q := (⟨"BundleHouseModel", "starting", "(I)V"⟩, 63)) (List.mem_of_getElem? (i := 13) rfl)) rfl
theorem gs_6_14 : Cond.selects "BundleHouseModel" ⟨"BundleHouseModel", "keepProgram", "()V"⟩ ⟨"BundleHouseModel", "keepProgram", "()V"⟩ ∈ GT := gt_of (ps_6 (q := (⟨"BundleHouseModel", "keepProgram", "()V"⟩, 63)) (List.mem_of_getElem? (i := 14) rfl)) rfl
theorem gs_6_15 : Cond.selects "BundleHouseModel" ⟨"BundleHouseModel", "throwing", "(ZZ)Z"⟩ ⟨"BundleHouseModel", "throwing", "(ZZ)Z"⟩ ∈ GT := gt_of (ps_6 (q := (⟨"BundleHouseModel", "throwing", "(ZZ)Z"⟩, 63)) (List.mem_of_getElem? (i := 15) rfl)) rfl
theorem gs_6_2 : Cond.selects "BundleHouseModel" ⟨"BundleHouseModel", "put", "(I)V"⟩ ⟨"BundleHouseModel", "put", "(I)V"⟩ ∈ GT := gt_of (ps_6 (q := (⟨"BundleHouseModel", "put", "(I)V"⟩, 63)) (List.mem_of_getElem? (i := 2) rfl)) rfl
theorem gs_6_3 : Cond.selects "BundleHouseModel" ⟨"BundleHouseModel", "putRegister", "(II)V"⟩ ⟨"BundleHouseModel", "putRegister", "(II)V"⟩ ∈ GT := gt_of (ps_6 (q := (⟨"BundleHouseModel", "putRegister", "(II)V"⟩, 63)) (List.mem_of_getElem? (i := 3) rfl)) rfl
theorem gs_6_4 : Cond.selects "BundleHouseModel" ⟨"BundleHouseModel", "putMemory", "(III)V"⟩ ⟨"BundleHouseModel", "putMemory", "(III)V"⟩ ∈ GT := gt_of (ps_6 (q := (⟨"BundleHouseModel", "putMemory", "(III)V"⟩, 63)) (List.mem_of_getElem? (i := 4) rfl)) rfl
theorem gs_6_5 : Cond.selects "BundleHouseModel" ⟨"BundleHouseModel", "putFour", "(I)V"⟩ ⟨"BundleHouseModel", "putFour", "(I)V"⟩ ∈ GT := gt_of (ps_6 (q := (⟨"BundleHouseModel", "putFour", "(I)V"⟩, 63)) (List.mem_of_getElem? (i := 5) rfl)) rfl
theorem gs_6_6 : Cond.selects "BundleHouseModel" ⟨"BundleHouseModel", "encodeNumber", "(IIIII)V"⟩ ⟨"BundleHouseModel", "encodeNumber", "(IIIII)V"⟩ ∈ GT := gt_of (ps_6 (q := (⟨"BundleHouseModel", "encodeNumber", "(IIIII)V"⟩, 63)) (List.mem_of_getElem? (i := 6) rfl)) rfl
theorem gs_6_7 : Cond.selects "BundleHouseModel" ⟨"BundleHouseModel", "lengthens", "()Z"⟩ ⟨"BundleHouseModel", "lengthens", "()Z"⟩ ∈ GT := gt_of (ps_6 (q := (⟨"BundleHouseModel", "lengthens", "()Z"⟩, 63)) (List.mem_of_getElem? (i := 7) rfl)) rfl
theorem gs_6_8 : Cond.selects "BundleHouseModel" ⟨"BundleHouseModel", "far", "(I)I"⟩ ⟨"BundleHouseModel", "far", "(I)I"⟩ ∈ GT := gt_of (ps_6 (q := (⟨"BundleHouseModel", "far", "(I)I"⟩, 63)) (List.mem_of_getElem? (i := 8) rfl)) rfl
theorem gs_6_9 : Cond.selects "BundleHouseModel" ⟨"BundleHouseModel", "write", "(I)V"⟩ ⟨"BundleHouseModel", "write", "(I)V"⟩ ∈ GT := gt_of (ps_6 (q := (⟨"BundleHouseModel", "write", "(I)V"⟩, 63)) (List.mem_of_getElem? (i := 9) rfl)) rfl
theorem gs_7_0 : Cond.selects "BundleHouseModel" ⟨"BundleHouseModel", "begin", "(I)V"⟩ ⟨"BundleHouseModel", "begin", "(I)V"⟩ ∈ GT := gt_of (ps_7 (q := (⟨"BundleHouseModel", "begin", "(I)V"⟩, 63)) (List.mem_of_getElem? (i := 0) rfl)) rfl
theorem gs_7_1 : Cond.selects "BundleHouseModel" ⟨"BundleHouseModel", "step", "()I"⟩ ⟨"BundleHouseModel", "step", "()I"⟩ ∈ GT := gt_of (ps_7 (q := (⟨"BundleHouseModel", "step", "()I"⟩, 63)) (List.mem_of_getElem? (i := 1) rfl)) rfl
theorem gs_7_10 : Cond.selects "BundleHouseModel" ⟨"BundleHouseModel", "place1", "(II)I"⟩ ⟨"BundleHouseModel", "place1", "(II)I"⟩ ∈ GT := gt_of (ps_7 (q := (⟨"BundleHouseModel", "place1", "(II)I"⟩, 63)) (List.mem_of_getElem? (i := 10) rfl)) rfl
theorem gs_7_11 : Cond.selects "BundleHouseModel" ⟨"BundleHouseModel", "holds", "(I)Z"⟩ ⟨"BundleHouseModel", "holds", "(I)Z"⟩ ∈ GT := gt_of (ps_7 (q := (⟨"BundleHouseModel", "holds", "(I)Z"⟩, 63)) (List.mem_of_getElem? (i := 11) rfl)) rfl
theorem gs_7_12 : Cond.selects "BundleHouseModel" ⟨"BundleHouseModel", "push", "(I)V"⟩ ⟨"BundleHouseModel", "push", "(I)V"⟩ ∈ GT := gt_of (ps_7 (q := (⟨"BundleHouseModel", "push", "(I)V"⟩, 63)) (List.mem_of_getElem? (i := 12) rfl)) rfl
theorem gs_7_13 : Cond.selects "BundleHouseModel" ⟨"BundleHouseModel", "store", "(II)V"⟩ ⟨"BundleHouseModel", "store", "(II)V"⟩ ∈ GT := gt_of (ps_7 (q := (⟨"BundleHouseModel", "store", "(II)V"⟩, 63)) (List.mem_of_getElem? (i := 13) rfl)) rfl
theorem gs_7_14 : Cond.selects "BundleHouseModel" ⟨"BundleHouseModel", "does", "()V"⟩ ⟨"BundleHouseModel", "does", "()V"⟩ ∈ GT := gt_of (ps_7 (q := (⟨"BundleHouseModel", "does", "()V"⟩, 63)) (List.mem_of_getElem? (i := 14) rfl)) rfl
theorem gs_7_15 : Cond.selects "BundleHouseModel" ⟨"BundleHouseModel", "worked", "(III)I"⟩ ⟨"BundleHouseModel", "worked", "(III)I"⟩ ∈ GT := gt_of (ps_7 (q := (⟨"BundleHouseModel", "worked", "(III)I"⟩, 63)) (List.mem_of_getElem? (i := 15) rfl)) rfl
theorem gs_7_2 : Cond.selects "BundleHouseModel" ⟨"BundleHouseModel", "reg", "(I)I"⟩ ⟨"BundleHouseModel", "reg", "(I)I"⟩ ∈ GT := gt_of (ps_7 (q := (⟨"BundleHouseModel", "reg", "(I)I"⟩, 63)) (List.mem_of_getElem? (i := 2) rfl)) rfl
theorem gs_7_3 : Cond.selects "BundleHouseModel" ⟨"BundleHouseModel", "serves", "(I)V"⟩ ⟨"BundleHouseModel", "serves", "(I)V"⟩ ∈ GT := gt_of (ps_7 (q := (⟨"BundleHouseModel", "serves", "(I)V"⟩, 63)) (List.mem_of_getElem? (i := 3) rfl)) rfl
theorem gs_7_4 : Cond.selects "BundleHouseModel" ⟨"BundleHouseModel", "setReg", "(II)V"⟩ ⟨"BundleHouseModel", "setReg", "(II)V"⟩ ∈ GT := gt_of (ps_7 (q := (⟨"BundleHouseModel", "setReg", "(II)V"⟩, 63)) (List.mem_of_getElem? (i := 4) rfl)) rfl
theorem gs_7_5 : Cond.selects "BundleHouseModel" ⟨"BundleHouseModel", "pop", "()I"⟩ ⟨"BundleHouseModel", "pop", "()I"⟩ ∈ GT := gt_of (ps_7 (q := (⟨"BundleHouseModel", "pop", "()I"⟩, 63)) (List.mem_of_getElem? (i := 5) rfl)) rfl
theorem gs_7_6 : Cond.selects "BundleHouseModel" ⟨"BundleHouseModel", "load", "(I)I"⟩ ⟨"BundleHouseModel", "load", "(I)I"⟩ ∈ GT := gt_of (ps_7 (q := (⟨"BundleHouseModel", "load", "(I)I"⟩, 63)) (List.mem_of_getElem? (i := 6) rfl)) rfl
theorem gs_7_7 : Cond.selects "BundleHouseModel" ⟨"BundleHouseModel", "takes", "(IIIIII)V"⟩ ⟨"BundleHouseModel", "takes", "(IIIIII)V"⟩ ∈ GT := gt_of (ps_7 (q := (⟨"BundleHouseModel", "takes", "(IIIIII)V"⟩, 63)) (List.mem_of_getElem? (i := 7) rfl)) rfl
theorem gs_7_8 : Cond.selects "BundleHouseModel" ⟨"BundleHouseModel", "wants", "()Z"⟩ ⟨"BundleHouseModel", "wants", "()Z"⟩ ∈ GT := gt_of (ps_7 (q := (⟨"BundleHouseModel", "wants", "()Z"⟩, 63)) (List.mem_of_getElem? (i := 8) rfl)) rfl
theorem gs_7_9 : Cond.selects "BundleHouseModel" ⟨"BundleHouseModel", "isOnMemory", "()Z"⟩ ⟨"BundleHouseModel", "isOnMemory", "()Z"⟩ ∈ GT := gt_of (ps_7 (q := (⟨"BundleHouseModel", "isOnMemory", "()Z"⟩, 63)) (List.mem_of_getElem? (i := 9) rfl)) rfl
theorem gs_8_0 : Cond.selects "BundleHouseModel" ⟨"BundleHouseModel", "added", "(III)I"⟩ ⟨"BundleHouseModel", "added", "(III)I"⟩ ∈ GT := gt_of (ps_8 (q := (⟨"BundleHouseModel", "added", "(III)I"⟩, 63)) (List.mem_of_getElem? (i := 0) rfl)) rfl
theorem gs_8_1 : Cond.selects "BundleHouseModel" ⟨"BundleHouseModel", "setFlags", "(ZZ)V"⟩ ⟨"BundleHouseModel", "setFlags", "(ZZ)V"⟩ ∈ GT := gt_of (ps_8 (q := (⟨"BundleHouseModel", "setFlags", "(ZZ)V"⟩, 63)) (List.mem_of_getElem? (i := 1) rfl)) rfl
theorem gs_8_10 : Cond.selects "BundleHouseModel" ⟨"BundleHouseModel", "plainStride", "(I)I"⟩ ⟨"BundleHouseModel", "plainStride", "(I)I"⟩ ∈ GT := gt_of (ps_8 (q := (⟨"BundleHouseModel", "plainStride", "(I)I"⟩, 63)) (List.mem_of_getElem? (i := 10) rfl)) rfl
theorem gs_8_11 : Cond.selects "BundleHouseModel" ⟨"BundleHouseModel", "readsUnknown", "()Z"⟩ ⟨"BundleHouseModel", "readsUnknown", "()Z"⟩ ∈ GT := gt_of (ps_8 (q := (⟨"BundleHouseModel", "readsUnknown", "()Z"⟩, 63)) (List.mem_of_getElem? (i := 11) rfl)) rfl
theorem gs_8_12 : Cond.selects "BundleHouseModel" ⟨"BundleHouseModel", "memoryUnknown", "()Z"⟩ ⟨"BundleHouseModel", "memoryUnknown", "()Z"⟩ ∈ GT := gt_of (ps_8 (q := (⟨"BundleHouseModel", "memoryUnknown", "()Z"⟩, 63)) (List.mem_of_getElem? (i := 12) rfl)) rfl
theorem gs_8_13 : Cond.selects "BundleHouseModel" ⟨"BundleHouseModel", "isUnknown", "(I)Z"⟩ ⟨"BundleHouseModel", "isUnknown", "(I)Z"⟩ ∈ GT := gt_of (ps_8 (q := (⟨"BundleHouseModel", "isUnknown", "(I)Z"⟩, 63)) (List.mem_of_getElem? (i := 13) rfl)) rfl
theorem gs_8_14 : Cond.selects "BundleHouseModel" ⟨"BundleHouseModel", "namesUnknown", "(I)Z"⟩ ⟨"BundleHouseModel", "namesUnknown", "(I)Z"⟩ ∈ GT := gt_of (ps_8 (q := (⟨"BundleHouseModel", "namesUnknown", "(I)Z"⟩, 63)) (List.mem_of_getElem? (i := 14) rfl)) rfl
theorem gs_8_15 : Cond.selects "BundleHouseModel" ⟨"BundleHouseModel", "forgetFlags", "()V"⟩ ⟨"BundleHouseModel", "forgetFlags", "()V"⟩ ∈ GT := gt_of (ps_8 (q := (⟨"BundleHouseModel", "forgetFlags", "()V"⟩, 63)) (List.mem_of_getElem? (i := 15) rfl)) rfl
theorem gs_8_2 : Cond.selects "BundleHouseModel" ⟨"BundleHouseModel", "result", "(I)V"⟩ ⟨"BundleHouseModel", "result", "(I)V"⟩ ∈ GT := gt_of (ps_8 (q := (⟨"BundleHouseModel", "result", "(I)V"⟩, 63)) (List.mem_of_getElem? (i := 2) rfl)) rfl
theorem gs_8_3 : Cond.selects "BundleHouseModel" ⟨"BundleHouseModel", "plainResult", "(I)I"⟩ ⟨"BundleHouseModel", "plainResult", "(I)I"⟩ ∈ GT := gt_of (ps_8 (q := (⟨"BundleHouseModel", "plainResult", "(I)I"⟩, 63)) (List.mem_of_getElem? (i := 3) rfl)) rfl
theorem gs_8_4 : Cond.selects "BundleHouseModel" ⟨"BundleHouseModel", "taken", "(III)I"⟩ ⟨"BundleHouseModel", "taken", "(III)I"⟩ ∈ GT := gt_of (ps_8 (q := (⟨"BundleHouseModel", "taken", "(III)I"⟩, 63)) (List.mem_of_getElem? (i := 4) rfl)) rfl
theorem gs_8_5 : Cond.selects "BundleHouseModel" ⟨"BundleHouseModel", "shifted", "(III)I"⟩ ⟨"BundleHouseModel", "shifted", "(III)I"⟩ ∈ GT := gt_of (ps_8 (q := (⟨"BundleHouseModel", "shifted", "(III)I"⟩, 63)) (List.mem_of_getElem? (i := 5) rfl)) rfl
theorem gs_8_6 : Cond.selects "BundleHouseModel" ⟨"BundleHouseModel", "passed", "(I)I"⟩ ⟨"BundleHouseModel", "passed", "(I)I"⟩ ∈ GT := gt_of (ps_8 (q := (⟨"BundleHouseModel", "passed", "(I)I"⟩, 63)) (List.mem_of_getElem? (i := 6) rfl)) rfl
theorem gs_8_7 : Cond.selects "BundleHouseModel" ⟨"BundleHouseModel", "stride", "()I"⟩ ⟨"BundleHouseModel", "stride", "()I"⟩ ∈ GT := gt_of (ps_8 (q := (⟨"BundleHouseModel", "stride", "()I"⟩, 63)) (List.mem_of_getElem? (i := 7) rfl)) rfl
theorem gs_8_8 : Cond.selects "BundleHouseModel" ⟨"BundleHouseModel", "atService", "(I)I"⟩ ⟨"BundleHouseModel", "atService", "(I)I"⟩ ∈ GT := gt_of (ps_8 (q := (⟨"BundleHouseModel", "atService", "(I)I"⟩, 63)) (List.mem_of_getElem? (i := 8) rfl)) rfl
theorem gs_8_9 : Cond.selects "BundleHouseModel" ⟨"BundleHouseModel", "leads", "(I)I"⟩ ⟨"BundleHouseModel", "leads", "(I)I"⟩ ∈ GT := gt_of (ps_8 (q := (⟨"BundleHouseModel", "leads", "(I)I"⟩, 63)) (List.mem_of_getElem? (i := 9) rfl)) rfl
theorem bp_10 : (Int8.ofInt 10).toInt32 = 10 := by decide
theorem bp_100 : (Int8.ofInt 100).toInt32 = 100 := by decide
theorem bp_104 : (Int8.ofInt 104).toInt32 = 104 := by decide
theorem bp_106 : (Int8.ofInt 106).toInt32 = 106 := by decide
theorem bp_11 : (Int8.ofInt 11).toInt32 = 11 := by decide
theorem bp_112 : (Int8.ofInt 112).toInt32 = 112 := by decide
theorem bp_12 : (Int8.ofInt 12).toInt32 = 12 := by decide
theorem bp_120 : (Int8.ofInt 120).toInt32 = 120 := by decide
theorem bp_122 : (Int8.ofInt 122).toInt32 = 122 := by decide
theorem bp_123 : (Int8.ofInt 123).toInt32 = 123 := by decide
theorem bp_127 : (Int8.ofInt 127).toInt32 = 127 := by decide
theorem bp_13 : (Int8.ofInt 13).toInt32 = 13 := by decide
theorem bp_14 : (Int8.ofInt 14).toInt32 = 14 := by decide
theorem bp_15 : (Int8.ofInt 15).toInt32 = 15 := by decide
theorem bp_16 : (Int8.ofInt 16).toInt32 = 16 := by decide
theorem bp_17 : (Int8.ofInt 17).toInt32 = 17 := by decide
theorem bp_18 : (Int8.ofInt 18).toInt32 = 18 := by decide
theorem bp_19 : (Int8.ofInt 19).toInt32 = 19 := by decide
theorem bp_20 : (Int8.ofInt 20).toInt32 = 20 := by decide
theorem bp_21 : (Int8.ofInt 21).toInt32 = 21 := by decide
theorem bp_22 : (Int8.ofInt 22).toInt32 = 22 := by decide
theorem bp_23 : (Int8.ofInt 23).toInt32 = 23 := by decide
theorem bp_24 : (Int8.ofInt 24).toInt32 = 24 := by decide
theorem bp_25 : (Int8.ofInt 25).toInt32 = 25 := by decide
theorem bp_26 : (Int8.ofInt 26).toInt32 = 26 := by decide
theorem bp_27 : (Int8.ofInt 27).toInt32 = 27 := by decide
theorem bp_28 : (Int8.ofInt 28).toInt32 = 28 := by decide
theorem bp_31 : (Int8.ofInt 31).toInt32 = 31 := by decide
theorem bp_32 : (Int8.ofInt 32).toInt32 = 32 := by decide
theorem bp_40 : (Int8.ofInt 40).toInt32 = 40 := by decide
theorem bp_48 : (Int8.ofInt 48).toInt32 = 48 := by decide
theorem bp_50 : (Int8.ofInt 50).toInt32 = 50 := by decide
theorem bp_6 : (Int8.ofInt 6).toInt32 = 6 := by decide
theorem bp_64 : (Int8.ofInt 64).toInt32 = 64 := by decide
theorem bp_7 : (Int8.ofInt 7).toInt32 = 7 := by decide
theorem bp_8 : (Int8.ofInt 8).toInt32 = 8 := by decide
theorem bp_80 : (Int8.ofInt 80).toInt32 = 80 := by decide
theorem bp_88 : (Int8.ofInt 88).toInt32 = 88 := by decide
theorem bp_89 : (Int8.ofInt 89).toInt32 = 89 := by decide
theorem bp_9 : (Int8.ofInt 9).toInt32 = 9 := by decide
theorem bp_96 : (Int8.ofInt 96).toInt32 = 96 := by decide
theorem bp_m100 : (Int8.ofInt (-100)).toInt32 = (-100) := by decide
theorem bp_m128 : (Int8.ofInt (-128)).toInt32 = (-128) := by decide
theorem bp_m16 : (Int8.ofInt (-16)).toInt32 = (-16) := by decide
theorem ic_0 : Int32.ofInt 0 = 0 := by decide
theorem ic_1 : Int32.ofInt 1 = 1 := by decide
theorem ic_16 : Int32.ofInt 16 = 16 := by decide
theorem ic_2 : Int32.ofInt 2 = 2 := by decide
theorem ic_3 : Int32.ofInt 3 = 3 := by decide
theorem ic_4 : Int32.ofInt 4 = 4 := by decide
theorem ic_5 : Int32.ofInt 5 = 5 := by decide
theorem ic_8 : Int32.ofInt 8 = 8 := by decide
theorem ic_m1 : Int32.ofInt (-1) = (-1) := by decide
theorem ic_m8 : Int32.ofInt (-8) = (-8) := by decide
theorem sp_1000 : (Int16.ofInt 1000).toInt32 = 1000 := by decide
theorem sp_1020 : (Int16.ofInt 1020).toInt32 = 1020 := by decide
theorem sp_1024 : (Int16.ofInt 1024).toInt32 = 1024 := by decide
theorem sp_1080 : (Int16.ofInt 1080).toInt32 = 1080 := by decide
theorem sp_1100 : (Int16.ofInt 1100).toInt32 = 1100 := by decide
theorem sp_128 : (Int16.ofInt 128).toInt32 = 128 := by decide
theorem sp_129 : (Int16.ofInt 129).toInt32 = 129 := by decide
theorem sp_131 : (Int16.ofInt 131).toInt32 = 131 := by decide
theorem sp_133 : (Int16.ofInt 133).toInt32 = 133 := by decide
theorem sp_137 : (Int16.ofInt 137).toInt32 = 137 := by decide
theorem sp_138 : (Int16.ofInt 138).toInt32 = 138 := by decide
theorem sp_139 : (Int16.ofInt 139).toInt32 = 139 := by decide
theorem sp_141 : (Int16.ofInt 141).toInt32 = 141 := by decide
theorem sp_143 : (Int16.ofInt 143).toInt32 = 143 := by decide
theorem sp_144 : (Int16.ofInt 144).toInt32 = 144 := by decide
theorem sp_175 : (Int16.ofInt 175).toInt32 = 175 := by decide
theorem sp_184 : (Int16.ofInt 184).toInt32 = 184 := by decide
theorem sp_192 : (Int16.ofInt 192).toInt32 = 192 := by decide
theorem sp_193 : (Int16.ofInt 193).toInt32 = 193 := by decide
theorem sp_199 : (Int16.ofInt 199).toInt32 = 199 := by decide
theorem sp_2000 : (Int16.ofInt 2000).toInt32 = 2000 := by decide
theorem sp_208 : (Int16.ofInt 208).toInt32 = 208 := by decide
theorem sp_224 : (Int16.ofInt 224).toInt32 = 224 := by decide
theorem sp_232 : (Int16.ofInt 232).toInt32 = 232 := by decide
theorem sp_233 : (Int16.ofInt 233).toInt32 = 233 := by decide
theorem sp_235 : (Int16.ofInt 235).toInt32 = 235 := by decide
theorem sp_240 : (Int16.ofInt 240).toInt32 = 240 := by decide
theorem sp_244 : (Int16.ofInt 244).toInt32 = 244 := by decide
theorem sp_247 : (Int16.ofInt 247).toInt32 = 247 := by decide
theorem sp_255 : (Int16.ofInt 255).toInt32 = 255 := by decide
theorem sp_256 : (Int16.ofInt 256).toInt32 = 256 := by decide
theorem sp_3000 : (Int16.ofInt 3000).toInt32 = 3000 := by decide
theorem sp_5000 : (Int16.ofInt 5000).toInt32 = 5000 := by decide
theorem ul_House : ∀ k, k < 16 → u_lay cn_House fT_House k ∈ GT := fun k hk => match k, hk with
  | 0, _ => g_2_171
  | 1, _ => g_2_173
  | 2, _ => g_2_175
  | 3, _ => g_2_177
  | 4, _ => g_2_179
  | 5, _ => g_2_181
  | 6, _ => g_2_183
  | 7, _ => g_2_185
  | 8, _ => g_2_187
  | 9, _ => g_2_189
  | 10, _ => g_2_191
  | 11, _ => g_2_193
  | 12, _ => g_2_195
  | 13, _ => g_2_197
  | 14, _ => g_2_199
  | 15, _ => g_2_201
  | k + 16, h => absurd h (by omega)
theorem ko_House : KO 0 16 cn_House fT_House ty_House := ⟨fun w hw => by
  obtain ⟨i, hi, rfl⟩ := List.mem_map.mp hw
  exact ul_House i (List.mem_range.mp hi), rfl, rfl, lt_ rfl, ty_House_ok, nm_House⟩
theorem ul_Strip : ∀ k, k < 3 → u_lay cn_Strip fT_Strip k ∈ GT := fun k hk => match k, hk with
  | 0, _ => g_1_44
  | 1, _ => g_1_46
  | 2, _ => g_1_48
  | k + 3, h => absurd h (by omega)
theorem ko_Strip : KO 1 3 cn_Strip fT_Strip ty_Strip := ⟨fun w hw => by
  obtain ⟨i, hi, rfl⟩ := List.mem_map.mp hw
  exact ul_Strip i (List.mem_range.mp hi), rfl, rfl, lt_ rfl, ty_Strip_ok, nm_Strip⟩
theorem ul_Policy : ∀ k, k < 3 → u_lay cn_Policy fT_Policy k ∈ GT := fun k hk => match k, hk with
  | 0, _ => g_1_160
  | 1, _ => g_1_162
  | 2, _ => g_1_164
  | k + 3, h => absurd h (by omega)
theorem ko_Policy : KO 2 3 cn_Policy fT_Policy ty_Policy := ⟨fun w hw => by
  obtain ⟨i, hi, rfl⟩ := List.mem_map.mp hw
  exact ul_Policy i (List.mem_range.mp hi), rfl, rfl, lt_ rfl, ty_Policy_ok, nm_Policy⟩
theorem ul_Reader : ∀ k, k < 10 → u_lay cn_Reader fT_Reader k ∈ GT := fun k hk => match k, hk with
  | 0, _ => g_1_135
  | 1, _ => g_1_137
  | 2, _ => g_1_139
  | 3, _ => g_1_141
  | 4, _ => g_1_143
  | 5, _ => g_1_145
  | 6, _ => g_1_147
  | 7, _ => g_1_149
  | 8, _ => g_1_151
  | 9, _ => g_1_153
  | k + 10, h => absurd h (by omega)
theorem ko_Reader : KO 3 10 cn_Reader fT_Reader ty_Reader := ⟨fun w hw => by
  obtain ⟨i, hi, rfl⟩ := List.mem_map.mp hw
  exact ul_Reader i (List.mem_range.mp hi), rfl, rfl, lt_ rfl, ty_Reader_ok, nm_Reader⟩
theorem ul_Instruction : ∀ k, k < 7 → u_lay cn_Instruction fT_Instruction k ∈ GT := fun k hk => match k, hk with
  | 0, _ => g_1_107
  | 1, _ => g_1_109
  | 2, _ => g_1_111
  | 3, _ => g_1_113
  | 4, _ => g_1_115
  | 5, _ => g_1_117
  | 6, _ => g_1_119
  | k + 7, h => absurd h (by omega)
theorem ko_Instruction : KO 4 7 cn_Instruction fT_Instruction ty_Instruction := ⟨fun w hw => by
  obtain ⟨i, hi, rfl⟩ := List.mem_map.mp hw
  exact ul_Instruction i (List.mem_range.mp hi), rfl, rfl, lt_ rfl, ty_Instruction_ok, nm_Instruction⟩
theorem ul_Program : ∀ k, k < 14 → u_lay cn_Program fT_Program k ∈ GT := fun k hk => match k, hk with
  | 0, _ => g_1_199
  | 1, _ => g_1_201
  | 2, _ => g_1_203
  | 3, _ => g_1_205
  | 4, _ => g_1_207
  | 5, _ => g_1_209
  | 6, _ => g_1_211
  | 7, _ => g_1_213
  | 8, _ => g_1_215
  | 9, _ => g_1_217
  | 10, _ => g_1_219
  | 11, _ => g_1_221
  | 12, _ => g_1_223
  | 13, _ => g_1_225
  | k + 14, h => absurd h (by omega)
theorem ko_Program : KO 5 14 cn_Program fT_Program ty_Program := ⟨fun w hw => by
  obtain ⟨i, hi, rfl⟩ := List.mem_map.mp hw
  exact ul_Program i (List.mem_range.mp hi), rfl, rfl, lt_ rfl, ty_Program_ok, nm_Program⟩
theorem ul_Builder : ∀ k, k < 7 → u_lay cn_Builder fT_Builder k ∈ GT := fun k hk => match k, hk with
  | 0, _ => g_2_20
  | 1, _ => g_2_22
  | 2, _ => g_2_24
  | 3, _ => g_2_26
  | 4, _ => g_2_28
  | 5, _ => g_2_30
  | 6, _ => g_2_32
  | k + 7, h => absurd h (by omega)
theorem ko_Builder : KO 6 7 cn_Builder fT_Builder ty_Builder := ⟨fun w hw => by
  obtain ⟨i, hi, rfl⟩ := List.mem_map.mp hw
  exact ul_Builder i (List.mem_range.mp hi), rfl, rfl, lt_ rfl, ty_Builder_ok, nm_Builder⟩
theorem ul_Piece : ∀ k, k < 2 → u_lay cn_Piece fT_Piece k ∈ GT := fun k hk => match k, hk with
  | 0, _ => g_2_5
  | 1, _ => g_2_7
  | k + 2, h => absurd h (by omega)
theorem ko_Piece : KO 7 2 cn_Piece fT_Piece ty_Piece := ⟨fun w hw => by
  obtain ⟨i, hi, rfl⟩ := List.mem_map.mp hw
  exact ul_Piece i (List.mem_range.mp hi), rfl, rfl, lt_ rfl, ty_Piece_ok, nm_Piece⟩
theorem ul_Machine : ∀ k, k < 14 → u_lay cn_Machine fT_Machine k ∈ GT := fun k hk => match k, hk with
  | 0, _ => g_2_89
  | 1, _ => g_2_91
  | 2, _ => g_2_93
  | 3, _ => g_2_95
  | 4, _ => g_2_97
  | 5, _ => g_2_99
  | 6, _ => g_2_101
  | 7, _ => g_2_103
  | 8, _ => g_2_105
  | 9, _ => g_2_107
  | 10, _ => g_2_109
  | 11, _ => g_2_111
  | 12, _ => g_2_113
  | 13, _ => g_2_115
  | k + 14, h => absurd h (by omega)
theorem ko_Machine : KO 8 14 cn_Machine fT_Machine ty_Machine := ⟨fun w hw => by
  obtain ⟨i, hi, rfl⟩ := List.mem_map.mp hw
  exact ul_Machine i (List.mem_range.mp hi), rfl, rfl, lt_ rfl, ty_Machine_ok, nm_Machine⟩
theorem ul_Flags : ∀ k, k < 4 → u_lay cn_Flags fT_Flags k ∈ GT := fun k hk => match k, hk with
  | 0, _ => g_2_55
  | 1, _ => g_2_57
  | 2, _ => g_2_59
  | 3, _ => g_2_61
  | k + 4, h => absurd h (by omega)
theorem ko_Flags : KO 9 4 cn_Flags fT_Flags ty_Flags := ⟨fun w hw => by
  obtain ⟨i, hi, rfl⟩ := List.mem_map.mp hw
  exact ul_Flags i (List.mem_range.mp hi), rfl, rfl, lt_ rfl, ty_Flags_ok, nm_Flags⟩
theorem ul_Runner : ∀ k, k < 3 → u_lay cn_Runner fT_Runner k ∈ GT := fun k hk => match k, hk with
  | 0, _ => g_2_127
  | 1, _ => g_2_129
  | 2, _ => g_2_131
  | k + 3, h => absurd h (by omega)
theorem ko_Runner : KO 10 3 cn_Runner fT_Runner ty_Runner := ⟨fun w hw => by
  obtain ⟨i, hi, rfl⟩ := List.mem_map.mp hw
  exact ul_Runner i (List.mem_range.mp hi), rfl, rfl, lt_ rfl, ty_Runner_ok, nm_Runner⟩
theorem ul_Walker : ∀ k, k < 4 → u_lay cn_Walker fT_Walker k ∈ GT := fun k hk => match k, hk with
  | 0, _ => g_2_146
  | 1, _ => g_2_148
  | 2, _ => g_2_150
  | 3, _ => g_2_152
  | k + 4, h => absurd h (by omega)
theorem ko_Walker : KO 11 4 cn_Walker fT_Walker ty_Walker := ⟨fun w hw => by
  obtain ⟨i, hi, rfl⟩ := List.mem_map.mp hw
  exact ul_Walker i (List.mem_range.mp hi), rfl, rfl, lt_ rfl, ty_Walker_ok, nm_Walker⟩
theorem ul_Mo : ∀ k, k < 63 → u_lay cn_Mo fT_Mo k ∈ GT := fun k hk => match k, hk with
  | 0, _ => g_6_113
  | 1, _ => g_6_115
  | 2, _ => g_6_117
  | 3, _ => g_6_119
  | 4, _ => g_6_121
  | 5, _ => g_6_123
  | 6, _ => g_6_125
  | 7, _ => g_6_127
  | 8, _ => g_6_129
  | 9, _ => g_6_131
  | 10, _ => g_6_133
  | 11, _ => g_6_135
  | 12, _ => g_6_137
  | 13, _ => g_6_139
  | 14, _ => g_6_141
  | 15, _ => g_6_143
  | 16, _ => g_6_145
  | 17, _ => g_6_147
  | 18, _ => g_6_149
  | 19, _ => g_6_151
  | 20, _ => g_6_153
  | 21, _ => g_6_155
  | 22, _ => g_6_157
  | 23, _ => g_6_159
  | 24, _ => g_6_161
  | 25, _ => g_6_163
  | 26, _ => g_6_165
  | 27, _ => g_6_167
  | 28, _ => g_6_169
  | 29, _ => g_6_171
  | 30, _ => g_6_173
  | 31, _ => g_6_175
  | 32, _ => g_6_177
  | 33, _ => g_6_179
  | 34, _ => g_6_181
  | 35, _ => g_6_183
  | 36, _ => g_6_185
  | 37, _ => g_6_187
  | 38, _ => g_6_189
  | 39, _ => g_6_191
  | 40, _ => g_6_193
  | 41, _ => g_6_195
  | 42, _ => g_6_197
  | 43, _ => g_6_199
  | 44, _ => g_6_201
  | 45, _ => g_6_203
  | 46, _ => g_6_205
  | 47, _ => g_6_207
  | 48, _ => g_6_209
  | 49, _ => g_6_211
  | 50, _ => g_6_213
  | 51, _ => g_6_215
  | 52, _ => g_6_217
  | 53, _ => g_6_219
  | 54, _ => g_6_221
  | 55, _ => g_6_223
  | 56, _ => g_6_225
  | 57, _ => g_6_227
  | 58, _ => g_6_229
  | 59, _ => g_6_231
  | 60, _ => g_6_233
  | 61, _ => g_6_235
  | 62, _ => g_6_237
  | k + 63, h => absurd h (by omega)
theorem ko_Mo : KO 12 63 cn_Mo fT_Mo ty_Mo := ⟨fun w hw => by
  obtain ⟨i, hi, rfl⟩ := List.mem_map.mp hw
  exact ul_Mo i (List.mem_range.mp hi), rfl, rfl, lt_ rfl, ty_Mo_ok, nm_Mo⟩
