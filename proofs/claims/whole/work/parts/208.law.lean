theorem g_2_204 : (Jvm.Cond.methodLink "BundleHouseLaw" (37 : Nat) ({ cls := "BundleHouse", name := "feed", desc := "(IIIII)Z" } : Jvm.MethodName)) ∈ GT := gt_of (ts_2 (List.mem_of_getElem? (i := 204) rfl)) rfl
theorem g_2_212 : (Jvm.Cond.methodLink "BundleHouseLaw" (42 : Nat) ({ cls := "BundleHouse", name := "end", desc := "(I)Z" } : Jvm.MethodName)) ∈ GT := gt_of (ts_2 (List.mem_of_getElem? (i := 212) rfl)) rfl
theorem g_2_216 : (Jvm.Cond.methodLink "BundleHouseLaw" (47 : Nat) ({ cls := "BundleHouse", name := "check", desc := "()I" } : Jvm.MethodName)) ∈ GT := gt_of (ts_2 (List.mem_of_getElem? (i := 216) rfl)) rfl
theorem g_3_127 : (Jvm.Cond.methodLink "BundleHouseLaw" (61 : Nat) ({ cls := "BundleHouse", name := "flow", desc := "(III)I" } : Jvm.MethodName)) ∈ GT := gt_of (ts_3 (List.mem_of_getElem? (i := 127) rfl)) rfl
theorem g_3_142 : (Jvm.Cond.methodLink "BundleHouseLaw" (66 : Nat) ({ cls := "BundleHouse", name := "clear", desc := "()I" } : Jvm.MethodName)) ∈ GT := gt_of (ts_3 (List.mem_of_getElem? (i := 142) rfl)) rfl
theorem g_3_146 : (Jvm.Cond.methodLink "BundleHouseLaw" (70 : Nat) ({ cls := "BundleHouse", name := "build", desc := "()I" } : Jvm.MethodName)) ∈ GT := gt_of (ts_3 (List.mem_of_getElem? (i := 146) rfl)) rfl
theorem g_3_93 : (Jvm.Cond.methodLink "BundleHouseLaw" (52 : Nat) ({ cls := "BundleHouse", name := "fault", desc := "(I)I" } : Jvm.MethodName)) ∈ GT := gt_of (ts_3 (List.mem_of_getElem? (i := 93) rfl)) rfl
theorem g_3_97 : (Jvm.Cond.methodLink "BundleHouseLaw" (56 : Nat) ({ cls := "BundleHouse", name := "plain", desc := "(IIIIII)I" } : Jvm.MethodName)) ∈ GT := gt_of (ts_3 (List.mem_of_getElem? (i := 97) rfl)) rfl
theorem g_4_107 : (Jvm.Cond.methodLink "BundleHouseLaw" (74 : Nat) ({ cls := "BundleHouse", name := "size", desc := "()I" } : Jvm.MethodName)) ∈ GT := gt_of (ts_4 (List.mem_of_getElem? (i := 107) rfl)) rfl
theorem g_4_111 : (Jvm.Cond.methodLink "BundleHouseLaw" (78 : Nat) ({ cls := "BundleHouse", name := "code", desc := "(I)I" } : Jvm.MethodName)) ∈ GT := gt_of (ts_4 (List.mem_of_getElem? (i := 111) rfl)) rfl
theorem g_4_116 : (Jvm.Cond.methodLink "BundleHouseLaw" (91 : Nat) ({ cls := "BundleHouse", name := "place", desc := "(II)I" } : Jvm.MethodName)) ∈ GT := gt_of (ts_4 (List.mem_of_getElem? (i := 116) rfl)) rfl
theorem g_4_122 : (Jvm.Cond.methodLink "BundleHouseLaw" (95 : Nat) ({ cls := "BundleHouse", name := "set", desc := "(III)Z" } : Jvm.MethodName)) ∈ GT := gt_of (ts_4 (List.mem_of_getElem? (i := 122) rfl)) rfl
theorem g_4_147 : (Jvm.Cond.methodLink "BundleHouseLaw" (111 : Nat) ({ cls := "BundleHouse", name := "data", desc := "(ZI)I" } : Jvm.MethodName)) ∈ GT := gt_of (ts_4 (List.mem_of_getElem? (i := 147) rfl)) rfl
theorem g_4_155 : (Jvm.Cond.methodLink "BundleHouseLaw" (82 : Nat) ({ cls := "BundleHouseLaw", name := "decoded", desc := "(LBundleHouse;II[J)I" } : Jvm.MethodName)) ∈ GT := gt_of (ts_4 (List.mem_of_getElem? (i := 155) rfl)) rfl
theorem g_4_238 : (Jvm.Cond.methodLink "BundleHouseLaw" (100 : Nat) ({ cls := "BundleHouseLaw", name := "run", desc := "(LBundleHouse;I[J)I" } : Jvm.MethodName)) ∈ GT := gt_of (ts_4 (List.mem_of_getElem? (i := 238) rfl)) rfl
theorem g_5_174 : (Jvm.Cond.methodLink "BundleHouseLaw" (104 : Nat) ({ cls := "BundleHouseLaw", name := "walk", desc := "(LBundleHouse;I[J)I" } : Jvm.MethodName)) ∈ GT := gt_of (ts_5 (List.mem_of_getElem? (i := 174) rfl)) rfl
theorem g_6_15 : (Jvm.Cond.methodLink "BundleHouseLaw" (107 : Nat) ({ cls := "BundleHouseLaw", name := "state", desc := "(LBundleHouse;ZI[J)I" } : Jvm.MethodName)) ∈ GT := gt_of (ts_6 (List.mem_of_getElem? (i := 15) rfl)) rfl
theorem g_6_27 : (Jvm.Cond.methodLink "BundleHouseLaw" (115 : Nat) ({ cls := "BundleHouseLaw", name := "output", desc := "(LBundleHouse;ZI[J)I" } : Jvm.MethodName)) ∈ GT := gt_of (ts_6 (List.mem_of_getElem? (i := 27) rfl)) rfl
theorem g_7_1 : (Jvm.Cond.methodLink "BundleHouseLaw" (88 : Nat) ({ cls := "BundleHouseModel", name := "thrown", desc := "()I" } : Jvm.MethodName)) ∈ GT := gt_of (ts_7 (List.mem_of_getElem? (i := 1) rfl)) rfl
theorem g_7_106 : (Jvm.Cond.methodLink "BundleHouseLaw" (65 : Nat) ({ cls := "BundleHouseModel", name := "flow", desc := "(III)I" } : Jvm.MethodName)) ∈ GT := gt_of (ts_7 (List.mem_of_getElem? (i := 106) rfl)) rfl
theorem g_7_110 : (Jvm.Cond.methodLink "BundleHouseLaw" (69 : Nat) ({ cls := "BundleHouseModel", name := "clear", desc := "()I" } : Jvm.MethodName)) ∈ GT := gt_of (ts_7 (List.mem_of_getElem? (i := 110) rfl)) rfl
theorem g_7_114 : (Jvm.Cond.methodLink "BundleHouseLaw" (73 : Nat) ({ cls := "BundleHouseModel", name := "build", desc := "()I" } : Jvm.MethodName)) ∈ GT := gt_of (ts_7 (List.mem_of_getElem? (i := 114) rfl)) rfl
theorem g_7_13 : (Jvm.Cond.methodLink "BundleHouseLaw" (46 : Nat) ({ cls := "BundleHouseModel", name := "end", desc := "(I)Z" } : Jvm.MethodName)) ∈ GT := gt_of (ts_7 (List.mem_of_getElem? (i := 13) rfl)) rfl
theorem g_7_17 : (Jvm.Cond.methodLink "BundleHouseLaw" (51 : Nat) ({ cls := "BundleHouseModel", name := "check", desc := "()I" } : Jvm.MethodName)) ∈ GT := gt_of (ts_7 (List.mem_of_getElem? (i := 17) rfl)) rfl
theorem g_7_196 : (Jvm.Cond.methodLink "BundleHouseLaw" (77 : Nat) ({ cls := "BundleHouseModel", name := "size", desc := "()I" } : Jvm.MethodName)) ∈ GT := gt_of (ts_7 (List.mem_of_getElem? (i := 196) rfl)) rfl
theorem g_7_200 : (Jvm.Cond.methodLink "BundleHouseLaw" (81 : Nat) ({ cls := "BundleHouseModel", name := "code", desc := "(I)I" } : Jvm.MethodName)) ∈ GT := gt_of (ts_7 (List.mem_of_getElem? (i := 200) rfl)) rfl
theorem g_7_204 : (Jvm.Cond.methodLink "BundleHouseLaw" (87 : Nat) ({ cls := "BundleHouseModel", name := "decoded", desc := "(II)I" } : Jvm.MethodName)) ∈ GT := gt_of (ts_7 (List.mem_of_getElem? (i := 204) rfl)) rfl
theorem g_7_212 : (Jvm.Cond.methodLink "BundleHouseLaw" (94 : Nat) ({ cls := "BundleHouseModel", name := "place", desc := "(II)I" } : Jvm.MethodName)) ∈ GT := gt_of (ts_7 (List.mem_of_getElem? (i := 212) rfl)) rfl
theorem g_7_216 : (Jvm.Cond.methodLink "BundleHouseLaw" (99 : Nat) ({ cls := "BundleHouseModel", name := "set", desc := "(III)Z" } : Jvm.MethodName)) ∈ GT := gt_of (ts_7 (List.mem_of_getElem? (i := 216) rfl)) rfl
theorem g_7_220 : (Jvm.Cond.methodLink "BundleHouseLaw" (103 : Nat) ({ cls := "BundleHouseModel", name := "run", desc := "(I)I" } : Jvm.MethodName)) ∈ GT := gt_of (ts_7 (List.mem_of_getElem? (i := 220) rfl)) rfl
theorem g_7_5 : (Jvm.Cond.methodLink "BundleHouseLaw" (41 : Nat) ({ cls := "BundleHouseModel", name := "feed", desc := "(IIIII)Z" } : Jvm.MethodName)) ∈ GT := gt_of (ts_7 (List.mem_of_getElem? (i := 5) rfl)) rfl
theorem g_7_80 : (Jvm.Cond.methodLink "BundleHouseLaw" (55 : Nat) ({ cls := "BundleHouseModel", name := "fault", desc := "(I)I" } : Jvm.MethodName)) ∈ GT := gt_of (ts_7 (List.mem_of_getElem? (i := 80) rfl)) rfl
theorem g_7_84 : (Jvm.Cond.methodLink "BundleHouseLaw" (60 : Nat) ({ cls := "BundleHouseModel", name := "plain", desc := "(IIIIII)I" } : Jvm.MethodName)) ∈ GT := gt_of (ts_7 (List.mem_of_getElem? (i := 84) rfl)) rfl
theorem g_8_120 : (Jvm.Cond.methodLink "BundleHouseLaw" (110 : Nat) ({ cls := "BundleHouseModel", name := "state", desc := "(ZI)I" } : Jvm.MethodName)) ∈ GT := gt_of (ts_8 (List.mem_of_getElem? (i := 120) rfl)) rfl
theorem g_8_124 : (Jvm.Cond.methodLink "BundleHouseLaw" (114 : Nat) ({ cls := "BundleHouseModel", name := "data", desc := "(ZI)I" } : Jvm.MethodName)) ∈ GT := gt_of (ts_8 (List.mem_of_getElem? (i := 124) rfl)) rfl
theorem g_8_128 : (Jvm.Cond.methodLink "BundleHouseLaw" (117 : Nat) ({ cls := "BundleHouseModel", name := "output", desc := "(ZI)I" } : Jvm.MethodName)) ∈ GT := gt_of (ts_8 (List.mem_of_getElem? (i := 128) rfl)) rfl
theorem g_8_76 : (Jvm.Cond.methodLink "BundleHouseLaw" (106 : Nat) ({ cls := "BundleHouseModel", name := "walk", desc := "(I)I" } : Jvm.MethodName)) ∈ GT := gt_of (ts_8 (List.mem_of_getElem? (i := 76) rfl)) rfl
theorem ic_7 : Int32.ofInt 7 = 7 := by decide
def Law_law_B23 (L : Nat) (xs : Nat → Int32) : Nat → Nat → Nat → Nat → Int32 → St → Option (Int32 × St)
  | 0, _, _, _, _, _ => none
  | n + 1, v1, v2, v3, v4, σ =>
    if ((nI L) - 7) < v4 then
      some (1, σ)
    else
      lx L xs v4 fun x1 =>
      nm (x1 &&& 31) fun x2 =>
      if x2 = 0 then
        lx L xs (v4 + 1) fun x3 =>
        lx L xs (v4 + 2) fun x4 =>
        lx L xs (v4 + 3) fun x5 =>
        lx L xs (v4 + 4) fun x6 =>
        lx L xs (v4 + 5) fun x7 =>
        cl (House_feed v1 x3 x4 x5 x6 x7 σ) fun x9 σ8 =>
        lx L xs (v4 + 1) fun x10 =>
        lx L xs (v4 + 2) fun x11 =>
        lx L xs (v4 + 3) fun x12 =>
        lx L xs (v4 + 4) fun x13 =>
        lx L xs (v4 + 5) fun x14 =>
        cl (Mo_feed v2 x10 x11 x12 x13 x14 σ8) fun x16 σ15 =>
        if x9 = x16 then
          nm (v4 + 7) fun x17 =>
          Law_law_B23 L xs n v1 v2 v3 x17 σ15
        else
          some (0, σ15)
      else
      if x2 = 1 then
        lx L xs (v4 + 1) fun x18 =>
        cl (House_end v1 x18 σ) fun x20 σ19 =>
        lx L xs (v4 + 1) fun x21 =>
        cl (Mo_end v2 x21 σ19) fun x23 σ22 =>
        if x20 = x23 then
          nm (v4 + 7) fun x24 =>
          Law_law_B23 L xs n v1 v2 v3 x24 σ22
        else
          some (0, σ22)
      else
      if x2 = 2 then
        cl (House_check v1 σ) fun x26 σ25 =>
        cl (Mo_check v2 σ25) fun x28 σ27 =>
        if x26 = x28 then
          nm (v4 + 7) fun x29 =>
          Law_law_B23 L xs n v1 v2 v3 x29 σ27
        else
          some (0, σ27)
      else
      if x2 = 3 then
        lx L xs (v4 + 1) fun x30 =>
        cl (House_fault v1 x30 σ) fun x32 σ31 =>
        lx L xs (v4 + 1) fun x33 =>
        cl (Mo_fault v2 x33 σ31) fun x35 σ34 =>
        if x32 = x35 then
          nm (v4 + 7) fun x36 =>
          Law_law_B23 L xs n v1 v2 v3 x36 σ34
        else
          some (0, σ34)
      else
      if x2 = 4 then
        lx L xs (v4 + 1) fun x37 =>
        lx L xs (v4 + 2) fun x38 =>
        lx L xs (v4 + 3) fun x39 =>
        lx L xs (v4 + 4) fun x40 =>
        lx L xs (v4 + 5) fun x41 =>
        lx L xs (v4 + 6) fun x42 =>
        cl (House_plain v1 x37 x38 x39 x40 x41 x42 σ) fun x44 σ43 =>
        lx L xs (v4 + 1) fun x45 =>
        lx L xs (v4 + 2) fun x46 =>
        lx L xs (v4 + 3) fun x47 =>
        lx L xs (v4 + 4) fun x48 =>
        lx L xs (v4 + 5) fun x49 =>
        lx L xs (v4 + 6) fun x50 =>
        cl (Mo_plain v2 x45 x46 x47 x48 x49 x50 σ43) fun x52 σ51 =>
        if x44 = x52 then
          nm (v4 + 7) fun x53 =>
          Law_law_B23 L xs n v1 v2 v3 x53 σ51
        else
          some (0, σ51)
      else
      if x2 = 5 then
        lx L xs (v4 + 1) fun x54 =>
        lx L xs (v4 + 2) fun x55 =>
        lx L xs (v4 + 3) fun x56 =>
        cl (House_flow v1 x54 x55 x56 σ) fun x58 σ57 =>
        lx L xs (v4 + 1) fun x59 =>
        lx L xs (v4 + 2) fun x60 =>
        lx L xs (v4 + 3) fun x61 =>
        cl (Mo_flow v2 x59 x60 x61 σ57) fun x63 σ62 =>
        if x58 = x63 then
          nm (v4 + 7) fun x64 =>
          Law_law_B23 L xs n v1 v2 v3 x64 σ62
        else
          some (0, σ62)
      else
      if x2 = 6 then
        cl (House_clear v1 σ) fun x66 σ65 =>
        cl (Mo_clear v2 σ65) fun x68 σ67 =>
        if x66 = x68 then
          nm (v4 + 7) fun x69 =>
          Law_law_B23 L xs n v1 v2 v3 x69 σ67
        else
          some (0, σ67)
      else
      if x2 = 7 then
        cl (House_build v1 σ) fun x71 σ70 =>
        cl (Mo_build v2 σ70) fun x73 σ72 =>
        if x71 = x73 then
          nm (v4 + 7) fun x74 =>
          Law_law_B23 L xs n v1 v2 v3 x74 σ72
        else
          some (0, σ72)
      else
      if x2 = 8 then
        cl (House_size v1 σ) fun x76 σ75 =>
        cl (Mo_size v2 σ75) fun x78 σ77 =>
        if x76 = x78 then
          nm (v4 + 7) fun x79 =>
          Law_law_B23 L xs n v1 v2 v3 x79 σ77
        else
          some (0, σ77)
      else
      if x2 = 9 then
        lx L xs (v4 + 1) fun x80 =>
        cl (House_code v1 x80 σ) fun x82 σ81 =>
        lx L xs (v4 + 1) fun x83 =>
        cl (Mo_code v2 x83 σ81) fun x85 σ84 =>
        if x82 = x85 then
          nm (v4 + 7) fun x86 =>
          Law_law_B23 L xs n v1 v2 v3 x86 σ84
        else
          some (0, σ84)
      else
      if x2 = 10 then
        lx L xs (v4 + 1) fun x87 =>
        lx L xs (v4 + 2) fun x88 =>
        cl (Law_decoded v1 x87 x88 v3 σ) fun x89 σ90 =>
        lx L xs (v4 + 1) fun x91 =>
        lx L xs (v4 + 2) fun x92 =>
        cl (Mo_decoded v2 x91 x92 σ90) fun x94 σ93 =>
        cl (Mo_thrown v2 σ93) fun x96 σ95 =>
        if x96 = x89 then
          if ¬ x89 = 0 then
            nm (v4 + 7) fun x97 =>
            Law_law_B23 L xs n v1 v2 v3 x97 σ95
          else
            ld σ95 v3 1 0 fun x98 =>
            if (lg_cmp (Int32.toInt64 x98) (Int32.toInt64 x94)) = 0 then
              nm (v4 + 7) fun x99 =>
              Law_law_B23 L xs n v1 v2 v3 x99 σ95
            else
              some (0, σ95)
        else
          some (0, σ95)
      else
      if x2 = 11 then
        lx L xs (v4 + 1) fun x100 =>
        lx L xs (v4 + 2) fun x101 =>
        cl (House_place v1 x100 x101 σ) fun x103 σ102 =>
        lx L xs (v4 + 1) fun x104 =>
        lx L xs (v4 + 2) fun x105 =>
        cl (Mo_place v2 x104 x105 σ102) fun x107 σ106 =>
        if x103 = x107 then
          nm (v4 + 7) fun x108 =>
          Law_law_B23 L xs n v1 v2 v3 x108 σ106
        else
          some (0, σ106)
      else
      if x2 = 12 then
        lx L xs (v4 + 1) fun x109 =>
        lx L xs (v4 + 2) fun x110 =>
        lx L xs (v4 + 3) fun x111 =>
        cl (House_set v1 x109 x110 x111 σ) fun x113 σ112 =>
        lx L xs (v4 + 1) fun x114 =>
        lx L xs (v4 + 2) fun x115 =>
        lx L xs (v4 + 3) fun x116 =>
        cl (Mo_set v2 x114 x115 x116 σ112) fun x118 σ117 =>
        if x113 = x118 then
          nm (v4 + 7) fun x119 =>
          Law_law_B23 L xs n v1 v2 v3 x119 σ117
        else
          some (0, σ117)
      else
      if x2 = 13 then
        lx L xs (v4 + 1) fun x120 =>
        cl (Law_run v1 x120 v3 σ) fun x121 σ122 =>
        lx L xs (v4 + 1) fun x123 =>
        cl (Mo_run v2 x123 σ122) fun x125 σ124 =>
        cl (Mo_thrown v2 σ124) fun x127 σ126 =>
        if x127 = x121 then
          if ¬ x121 = 0 then
            nm (v4 + 7) fun x128 =>
            Law_law_B23 L xs n v1 v2 v3 x128 σ126
          else
            ld σ126 v3 1 0 fun x129 =>
            if (lg_cmp (Int32.toInt64 x129) (Int32.toInt64 x125)) = 0 then
              nm (v4 + 7) fun x130 =>
              Law_law_B23 L xs n v1 v2 v3 x130 σ126
            else
              some (0, σ126)
        else
          some (0, σ126)
      else
      if x2 = 14 then
        lx L xs (v4 + 1) fun x131 =>
        cl (Law_walk v1 x131 v3 σ) fun x132 σ133 =>
        lx L xs (v4 + 1) fun x134 =>
        cl (Mo_walk v2 x134 σ133) fun x136 σ135 =>
        cl (Mo_thrown v2 σ135) fun x138 σ137 =>
        if x138 = x132 then
          if ¬ x132 = 0 then
            nm (v4 + 7) fun x139 =>
            Law_law_B23 L xs n v1 v2 v3 x139 σ137
          else
            ld σ137 v3 1 0 fun x140 =>
            if (lg_cmp (Int32.toInt64 x140) (Int32.toInt64 x136)) = 0 then
              nm (v4 + 7) fun x141 =>
              Law_law_B23 L xs n v1 v2 v3 x141 σ137
            else
              some (0, σ137)
        else
          some (0, σ137)
      else
      if x2 = 15 then
        lx L xs (v4 + 1) fun x142 =>
        if x142 = 0 then
          lx L xs (v4 + 2) fun x143 =>
          cl (Law_state v1 0 x143 v3 σ) fun x144 σ145 =>
          lx L xs (v4 + 1) fun x146 =>
          if x146 = 0 then
            lx L xs (v4 + 2) fun x147 =>
            cl (Mo_state v2 0 x147 σ145) fun x149 σ148 =>
            cl (Mo_thrown v2 σ148) fun x151 σ150 =>
            if x151 = x144 then
              if ¬ x144 = 0 then
                nm (v4 + 7) fun x152 =>
                Law_law_B23 L xs n v1 v2 v3 x152 σ150
              else
                ld σ150 v3 1 0 fun x153 =>
                if (lg_cmp (Int32.toInt64 x153) (Int32.toInt64 x149)) = 0 then
                  nm (v4 + 7) fun x154 =>
                  Law_law_B23 L xs n v1 v2 v3 x154 σ150
                else
                  some (0, σ150)
            else
              some (0, σ150)
          else
            lx L xs (v4 + 2) fun x155 =>
            cl (Mo_state v2 1 x155 σ145) fun x157 σ156 =>
            cl (Mo_thrown v2 σ156) fun x159 σ158 =>
            if x159 = x144 then
              if ¬ x144 = 0 then
                nm (v4 + 7) fun x160 =>
                Law_law_B23 L xs n v1 v2 v3 x160 σ158
              else
                ld σ158 v3 1 0 fun x161 =>
                if (lg_cmp (Int32.toInt64 x161) (Int32.toInt64 x157)) = 0 then
                  nm (v4 + 7) fun x162 =>
                  Law_law_B23 L xs n v1 v2 v3 x162 σ158
                else
                  some (0, σ158)
            else
              some (0, σ158)
        else
          lx L xs (v4 + 2) fun x163 =>
          cl (Law_state v1 1 x163 v3 σ) fun x164 σ165 =>
          lx L xs (v4 + 1) fun x166 =>
          if x166 = 0 then
            lx L xs (v4 + 2) fun x167 =>
            cl (Mo_state v2 0 x167 σ165) fun x169 σ168 =>
            cl (Mo_thrown v2 σ168) fun x171 σ170 =>
            if x171 = x164 then
              if ¬ x164 = 0 then
                nm (v4 + 7) fun x172 =>
                Law_law_B23 L xs n v1 v2 v3 x172 σ170
              else
                ld σ170 v3 1 0 fun x173 =>
                if (lg_cmp (Int32.toInt64 x173) (Int32.toInt64 x169)) = 0 then
                  nm (v4 + 7) fun x174 =>
                  Law_law_B23 L xs n v1 v2 v3 x174 σ170
                else
                  some (0, σ170)
            else
              some (0, σ170)
          else
            lx L xs (v4 + 2) fun x175 =>
            cl (Mo_state v2 1 x175 σ165) fun x177 σ176 =>
            cl (Mo_thrown v2 σ176) fun x179 σ178 =>
            if x179 = x164 then
              if ¬ x164 = 0 then
                nm (v4 + 7) fun x180 =>
                Law_law_B23 L xs n v1 v2 v3 x180 σ178
              else
                ld σ178 v3 1 0 fun x181 =>
                if (lg_cmp (Int32.toInt64 x181) (Int32.toInt64 x177)) = 0 then
                  nm (v4 + 7) fun x182 =>
                  Law_law_B23 L xs n v1 v2 v3 x182 σ178
                else
                  some (0, σ178)
            else
              some (0, σ178)
      else
      if x2 = 16 then
        lx L xs (v4 + 1) fun x183 =>
        if x183 = 0 then
          lx L xs (v4 + 2) fun x184 =>
          cl (House_data v1 0 x184 σ) fun x186 σ185 =>
          lx L xs (v4 + 1) fun x187 =>
          if x187 = 0 then
            lx L xs (v4 + 2) fun x188 =>
            cl (Mo_data v2 0 x188 σ185) fun x190 σ189 =>
            if x186 = x190 then
              nm (v4 + 7) fun x191 =>
              Law_law_B23 L xs n v1 v2 v3 x191 σ189
            else
              some (0, σ189)
          else
            lx L xs (v4 + 2) fun x192 =>
            cl (Mo_data v2 1 x192 σ185) fun x194 σ193 =>
            if x186 = x194 then
              nm (v4 + 7) fun x195 =>
              Law_law_B23 L xs n v1 v2 v3 x195 σ193
            else
              some (0, σ193)
        else
          lx L xs (v4 + 2) fun x196 =>
          cl (House_data v1 1 x196 σ) fun x198 σ197 =>
          lx L xs (v4 + 1) fun x199 =>
          if x199 = 0 then
            lx L xs (v4 + 2) fun x200 =>
            cl (Mo_data v2 0 x200 σ197) fun x202 σ201 =>
            if x198 = x202 then
              nm (v4 + 7) fun x203 =>
              Law_law_B23 L xs n v1 v2 v3 x203 σ201
            else
              some (0, σ201)
          else
            lx L xs (v4 + 2) fun x204 =>
            cl (Mo_data v2 1 x204 σ197) fun x206 σ205 =>
            if x198 = x206 then
              nm (v4 + 7) fun x207 =>
              Law_law_B23 L xs n v1 v2 v3 x207 σ205
            else
              some (0, σ205)
      else
      if x2 = 17 then
        lx L xs (v4 + 1) fun x208 =>
        if x208 = 0 then
          lx L xs (v4 + 2) fun x209 =>
          cl (Law_output v1 0 x209 v3 σ) fun x210 σ211 =>
          lx L xs (v4 + 1) fun x212 =>
          if x212 = 0 then
            lx L xs (v4 + 2) fun x213 =>
            cl (Mo_output v2 0 x213 σ211) fun x215 σ214 =>
            cl (Mo_thrown v2 σ214) fun x217 σ216 =>
            if x217 = x210 then
              if ¬ x210 = 0 then
                nm (v4 + 7) fun x218 =>
                Law_law_B23 L xs n v1 v2 v3 x218 σ216
              else
                ld σ216 v3 1 0 fun x219 =>
                if (lg_cmp (Int32.toInt64 x219) (Int32.toInt64 x215)) = 0 then
                  nm (v4 + 7) fun x220 =>
                  Law_law_B23 L xs n v1 v2 v3 x220 σ216
                else
                  some (0, σ216)
            else
              some (0, σ216)
          else
            lx L xs (v4 + 2) fun x221 =>
            cl (Mo_output v2 1 x221 σ211) fun x223 σ222 =>
            cl (Mo_thrown v2 σ222) fun x225 σ224 =>
            if x225 = x210 then
              if ¬ x210 = 0 then
                nm (v4 + 7) fun x226 =>
                Law_law_B23 L xs n v1 v2 v3 x226 σ224
              else
                ld σ224 v3 1 0 fun x227 =>
                if (lg_cmp (Int32.toInt64 x227) (Int32.toInt64 x223)) = 0 then
                  nm (v4 + 7) fun x228 =>
                  Law_law_B23 L xs n v1 v2 v3 x228 σ224
                else
                  some (0, σ224)
            else
              some (0, σ224)
        else
          lx L xs (v4 + 2) fun x229 =>
          cl (Law_output v1 1 x229 v3 σ) fun x230 σ231 =>
          lx L xs (v4 + 1) fun x232 =>
          if x232 = 0 then
            lx L xs (v4 + 2) fun x233 =>
            cl (Mo_output v2 0 x233 σ231) fun x235 σ234 =>
            cl (Mo_thrown v2 σ234) fun x237 σ236 =>
            if x237 = x230 then
              if ¬ x230 = 0 then
                nm (v4 + 7) fun x238 =>
                Law_law_B23 L xs n v1 v2 v3 x238 σ236
              else
                ld σ236 v3 1 0 fun x239 =>
                if (lg_cmp (Int32.toInt64 x239) (Int32.toInt64 x235)) = 0 then
                  nm (v4 + 7) fun x240 =>
                  Law_law_B23 L xs n v1 v2 v3 x240 σ236
                else
                  some (0, σ236)
            else
              some (0, σ236)
          else
            lx L xs (v4 + 2) fun x241 =>
            cl (Mo_output v2 1 x241 σ231) fun x243 σ242 =>
            cl (Mo_thrown v2 σ242) fun x245 σ244 =>
            if x245 = x230 then
              if ¬ x230 = 0 then
                nm (v4 + 7) fun x246 =>
                Law_law_B23 L xs n v1 v2 v3 x246 σ244
              else
                ld σ244 v3 1 0 fun x247 =>
                if (lg_cmp (Int32.toInt64 x247) (Int32.toInt64 x243)) = 0 then
                  nm (v4 + 7) fun x248 =>
                  Law_law_B23 L xs n v1 v2 v3 x248 σ244
                else
                  some (0, σ244)
            else
              some (0, σ244)
      else
      nm (v4 + 7) fun x249 =>
      Law_law_B23 L xs n v1 v2 v3 x249 σ
set_option maxHeartbeats 40000000 in
set_option maxRecDepth 100000 in
theorem t_Law_law_B23 {b L : Nat} {xs : Nat → Int32} {res : Int32 × St} (hres : res.1 = 1) : ∀ (n : Nat) (k : Cfg) (C : Cx k code "BundleHouseLaw") (hQ : LQ k b) (hX : LX k b L xs) (hRm : k.2.2.2.1 = room_1) (hnL : k.2.2.2.2.2.2.2.2.2.2.2.1 = 7) (hl0 : k.2.1.stackTraces = false) (hc : k.2.2.2.2.2.2.2.2.2.2.2.2.2.1 + n ≤ 1130) (hs : k.2.2.2.2.2.2.2.2.2.2.2.2.2.2 + 6 * n ≤ 34937) (v1 : Nat) (v2 : Nat) (v3 : Nat) (v4 : Int32) (ho_v1 : kd v1 = 0) (ho_v2 : kd v2 = 12) (ho_o : kd v3 = 901 ∧ al v3 = 1) (σ : St), Law_law_B23 L xs n v1 v2 v3 v4 σ = some res → WW k 23 [(0, .ref b), (1, .ref (ad k v1)), (2, .ref (ad k v2)), (3, .ref (ad k v3)), (4, .int v4)] [] σ := by
  intro n
  induction n with
  | zero =>
    intro k C hQ hX hRm hnL hl0 hc hs v1 v2 v3 v4 ho_v1 ho_v2 ho_o σ h
    have h : (none : Option (Int32 × St)) = some res := h
    cases h
  | succ n ih =>
    intro k C hQ hX hRm hnL hl0 hc hs v1 v2 v3 v4 ho_v1 ho_v2 ho_o σ h
    unfold Law_law_B23 at h
    refine ww_iload C 4 rfl (dq dk_Law_law_0 13 rfl) ?_
    refine ww_aload_n C 0 rfl rfl (dq dk_Law_law_0 14 rfl) ?_
    refine ww_xlen C hX (dq dk_Law_law_0 15 rfl) ?_
    refine ww_bipush C (dq dk_Law_law_0 16 rfl) bp_7 ?_
    refine ww_isub C (dq dk_Law_law_0 17 rfl) ?_
    refine ww_icmp_gt C 957 (dq dk_Law_law_0 18 rfl) (by decide) h (fun h => ?_) (fun h => ?_)
    · refine ww_iconst C (dq dk_Law_law_14 27 rfl) ic_1 ?_
      exact ww_lret C hQ hres (by show k.2.2.2.2.2.2.2.2.2.2.2.2.2.1 ≤ 1130; omega) (by show k.2.2.2.2.2.2.2.2.2.2.2.2.2.2 ≤ 34937; omega) (dq dk_Law_law_14 28 rfl) h
    · refine ww_aload_n C 0 rfl rfl (dq dk_Law_law_0 19 rfl) ?_
      refine ww_iload C 4 rfl (dq dk_Law_law_0 20 rfl) ?_
      refine ww_xld C hX (dq dk_Law_law_0 21 rfl) h (fun x1 h => ?_)
      refine ww_bipush C (dq dk_Law_law_0 22 rfl) bp_31 ?_
      refine ww_iand C (dq dk_Law_law_0 23 rfl) ?_
      refine ww_nmi h (fun x2 h => ?_)
      by_cases e0_0 : x2 = 0
      · rw [if_pos e0_0] at h
        refine ww_tabIn C 128 (dq dk_Law_law_0 24 rfl) (by rw [e0_0]; decide) (by rw [e0_0]; decide) (by rw [e0_0]; rfl) (by decide) ?_
        refine ww_aload_n C 1 rfl rfl (dq dk_Law_law_0 25 rfl) ?_
        refine ww_aload_n C 0 rfl rfl (dq dk_Law_law_0 26 rfl) ?_
        refine ww_iload C 4 rfl (dq dk_Law_law_0 27 rfl) ?_
        refine ww_iconst C (dq dk_Law_law_0 28 rfl) ic_1 ?_
        refine ww_iadd C (dq dk_Law_law_0 29 rfl) ?_
        refine ww_xld C hX (dq dk_Law_law_0 30 rfl) h (fun x3 h => ?_)
        refine ww_aload_n C 0 rfl rfl (dq dk_Law_law_0 31 rfl) ?_
        refine ww_iload C 4 rfl (dq dk_Law_law_0 32 rfl) ?_
        refine ww_iconst C (dq dk_Law_law_0 33 rfl) ic_2 ?_
        refine ww_iadd C (dq dk_Law_law_0 34 rfl) ?_
        refine ww_xld C hX (dq dk_Law_law_0 35 rfl) h (fun x4 h => ?_)
        refine ww_aload_n C 0 rfl rfl (dq dk_Law_law_0 36 rfl) ?_
        refine ww_iload C 4 rfl (dq dk_Law_law_0 37 rfl) ?_
        refine ww_iconst C (dq dk_Law_law_0 38 rfl) ic_3 ?_
        refine ww_iadd C (dq dk_Law_law_0 39 rfl) ?_
        refine ww_xld C hX (dq dk_Law_law_1 0 rfl) h (fun x5 h => ?_)
        refine ww_aload_n C 0 rfl rfl (dq dk_Law_law_1 1 rfl) ?_
        refine ww_iload C 4 rfl (dq dk_Law_law_1 2 rfl) ?_
        refine ww_iconst C (dq dk_Law_law_1 3 rfl) ic_4 ?_
        refine ww_iadd C (dq dk_Law_law_1 4 rfl) ?_
        refine ww_xld C hX (dq dk_Law_law_1 5 rfl) h (fun x6 h => ?_)
        refine ww_aload_n C 0 rfl rfl (dq dk_Law_law_1 6 rfl) ?_
        refine ww_iload C 4 rfl (dq dk_Law_law_1 7 rfl) ?_
        refine ww_iconst C (dq dk_Law_law_1 8 rfl) ic_5 ?_
        refine ww_iadd C (dq dk_Law_law_1 9 rfl) ?_
        refine ww_xld C hX (dq dk_Law_law_1 10 rfl) h (fun x7 h => ?_)
        refine ww_cVi (st := []) C (c_House_feed v1 ho_v1 x3 x4 x5 x6 x7) cw_House_feed ho_v1 (lt_ rfl) rfl g_2_204 hRm ⟨⟨rfl, rfl⟩, le_ rfl, le_ rfl⟩ rfl rfl rfl (le_ rfl) (dq dk_Law_law_1 11 rfl) h (fun x9 σ8 h => ?_)
        refine ww_aload_n C 2 rfl rfl (dq dk_Law_law_1 12 rfl) ?_
        refine ww_aload_n C 0 rfl rfl (dq dk_Law_law_1 13 rfl) ?_
        refine ww_iload C 4 rfl (dq dk_Law_law_1 14 rfl) ?_
        refine ww_iconst C (dq dk_Law_law_1 15 rfl) ic_1 ?_
        refine ww_iadd C (dq dk_Law_law_1 16 rfl) ?_
        refine ww_xld C hX (dq dk_Law_law_1 17 rfl) h (fun x10 h => ?_)
        refine ww_aload_n C 0 rfl rfl (dq dk_Law_law_1 18 rfl) ?_
        refine ww_iload C 4 rfl (dq dk_Law_law_1 19 rfl) ?_
        refine ww_iconst C (dq dk_Law_law_1 20 rfl) ic_2 ?_
        refine ww_iadd C (dq dk_Law_law_1 21 rfl) ?_
        refine ww_xld C hX (dq dk_Law_law_1 22 rfl) h (fun x11 h => ?_)
        refine ww_aload_n C 0 rfl rfl (dq dk_Law_law_1 23 rfl) ?_
        refine ww_iload C 4 rfl (dq dk_Law_law_1 24 rfl) ?_
        refine ww_iconst C (dq dk_Law_law_1 25 rfl) ic_3 ?_
        refine ww_iadd C (dq dk_Law_law_1 26 rfl) ?_
        refine ww_xld C hX (dq dk_Law_law_1 27 rfl) h (fun x12 h => ?_)
        refine ww_aload_n C 0 rfl rfl (dq dk_Law_law_1 28 rfl) ?_
        refine ww_iload C 4 rfl (dq dk_Law_law_1 29 rfl) ?_
        refine ww_iconst C (dq dk_Law_law_1 30 rfl) ic_4 ?_
        refine ww_iadd C (dq dk_Law_law_1 31 rfl) ?_
        refine ww_xld C hX (dq dk_Law_law_1 32 rfl) h (fun x13 h => ?_)
        refine ww_aload_n C 0 rfl rfl (dq dk_Law_law_1 33 rfl) ?_
        refine ww_iload C 4 rfl (dq dk_Law_law_1 34 rfl) ?_
        refine ww_iconst C (dq dk_Law_law_1 35 rfl) ic_5 ?_
        refine ww_iadd C (dq dk_Law_law_1 36 rfl) ?_
        refine ww_xld C hX (dq dk_Law_law_1 37 rfl) h (fun x14 h => ?_)
        refine ww_cVi (st := [.int x9]) C (c_Mo_feed v2 ho_v2 x10 x11 x12 x13 x14) cw_Mo_feed ho_v2 (lt_ rfl) rfl g_7_5 hRm ⟨⟨rfl, rfl⟩, le_ rfl, le_ rfl⟩ rfl rfl rfl (le_ rfl) (dq dk_Law_law_1 38 rfl) h (fun x16 σ15 h => ?_)
        refine ww_icmp_eq C 951 (dq dk_Law_law_1 39 rfl) (by decide) h (fun h => ?_) (fun h => ?_)
        · refine ww_iinc C 4 (fun z => [(4, .int z), (0, .ref b), (1, .ref (ad k v1)), (2, .ref (ad k v2)), (3, .ref (ad k v3))]) rfl ic_7 hnL (lt_ rfl) (fun _ => rfl) (dq dk_Law_law_14 25 rfl) h (fun x17 h => ?_)
          refine ww_goto C 23 (dq dk_Law_law_14 26 rfl) (by decide) ?_
          exact ww_lv [1, 2, 3, 4, 0] rfl (ih k C hQ hX hRm hnL hl0 (by show _ ≤ 1130; first | omega | (show _ + 1 + n ≤ 1130; omega)) (by show _ ≤ 34937; first | omega | (show _ + 6 + 6 * n ≤ 34937; omega)) v1 v2 v3 x17 ho_v1 ho_v2 ho_o σ15 h)
        · refine ww_iconst C (dq dk_Law_law_2 0 rfl) ic_0 ?_
          exact ww_lret C hQ hres (by show k.2.2.2.2.2.2.2.2.2.2.2.2.2.1 ≤ 1130; omega) (by show k.2.2.2.2.2.2.2.2.2.2.2.2.2.2 ≤ 34937; omega) (dq dk_Law_law_2 1 rfl) h
      rw [if_neg e0_0] at h
      by_cases e1_1 : x2 = 1
      · rw [if_pos e1_1] at h
        refine ww_tabIn C 201 (dq dk_Law_law_0 24 rfl) (by rw [e1_1]; decide) (by rw [e1_1]; decide) (by rw [e1_1]; rfl) (by decide) ?_
        refine ww_aload_n C 1 rfl rfl (dq dk_Law_law_2 2 rfl) ?_
        refine ww_aload_n C 0 rfl rfl (dq dk_Law_law_2 3 rfl) ?_
        refine ww_iload C 4 rfl (dq dk_Law_law_2 4 rfl) ?_
        refine ww_iconst C (dq dk_Law_law_2 5 rfl) ic_1 ?_
        refine ww_iadd C (dq dk_Law_law_2 6 rfl) ?_
        refine ww_xld C hX (dq dk_Law_law_2 7 rfl) h (fun x18 h => ?_)
        refine ww_cVi (st := []) C (c_House_end v1 ho_v1 x18) cw_House_end ho_v1 (lt_ rfl) rfl g_2_212 hRm ⟨⟨rfl, rfl⟩, le_ rfl, le_ rfl⟩ rfl rfl rfl (le_ rfl) (dq dk_Law_law_2 8 rfl) h (fun x20 σ19 h => ?_)
        refine ww_aload_n C 2 rfl rfl (dq dk_Law_law_2 9 rfl) ?_
        refine ww_aload_n C 0 rfl rfl (dq dk_Law_law_2 10 rfl) ?_
        refine ww_iload C 4 rfl (dq dk_Law_law_2 11 rfl) ?_
        refine ww_iconst C (dq dk_Law_law_2 12 rfl) ic_1 ?_
        refine ww_iadd C (dq dk_Law_law_2 13 rfl) ?_
        refine ww_xld C hX (dq dk_Law_law_2 14 rfl) h (fun x21 h => ?_)
        refine ww_cVi (st := [.int x20]) C (c_Mo_end v2 ho_v2 x21) cw_Mo_end ho_v2 (lt_ rfl) rfl g_7_13 hRm ⟨⟨rfl, rfl⟩, le_ rfl, le_ rfl⟩ rfl rfl rfl (le_ rfl) (dq dk_Law_law_2 15 rfl) h (fun x23 σ22 h => ?_)
        refine ww_icmp_eq C 951 (dq dk_Law_law_2 16 rfl) (by decide) h (fun h => ?_) (fun h => ?_)
        · refine ww_iinc C 4 (fun z => [(4, .int z), (0, .ref b), (1, .ref (ad k v1)), (2, .ref (ad k v2)), (3, .ref (ad k v3))]) rfl ic_7 hnL (lt_ rfl) (fun _ => rfl) (dq dk_Law_law_14 25 rfl) h (fun x24 h => ?_)
          refine ww_goto C 23 (dq dk_Law_law_14 26 rfl) (by decide) ?_
          exact ww_lv [1, 2, 3, 4, 0] rfl (ih k C hQ hX hRm hnL hl0 (by show _ ≤ 1130; first | omega | (show _ + 1 + n ≤ 1130; omega)) (by show _ ≤ 34937; first | omega | (show _ + 6 + 6 * n ≤ 34937; omega)) v1 v2 v3 x24 ho_v1 ho_v2 ho_o σ22 h)
        · refine ww_iconst C (dq dk_Law_law_2 17 rfl) ic_0 ?_
          exact ww_lret C hQ hres (by show k.2.2.2.2.2.2.2.2.2.2.2.2.2.1 ≤ 1130; omega) (by show k.2.2.2.2.2.2.2.2.2.2.2.2.2.2 ≤ 34937; omega) (dq dk_Law_law_2 18 rfl) h
      rw [if_neg e1_1] at h
      by_cases e2_2 : x2 = 2
      · rw [if_pos e2_2] at h
        refine ww_tabIn C 226 (dq dk_Law_law_0 24 rfl) (by rw [e2_2]; decide) (by rw [e2_2]; decide) (by rw [e2_2]; rfl) (by decide) ?_
        refine ww_aload_n C 1 rfl rfl (dq dk_Law_law_2 19 rfl) ?_
        refine ww_cVi (st := []) C (c_House_check v1 ho_v1) cw_House_check ho_v1 (lt_ rfl) rfl g_2_216 hRm ⟨⟨rfl, rfl⟩, le_ rfl, le_ rfl⟩ rfl rfl rfl (le_ rfl) (dq dk_Law_law_2 20 rfl) h (fun x26 σ25 h => ?_)
        refine ww_aload_n C 2 rfl rfl (dq dk_Law_law_2 21 rfl) ?_
        refine ww_cVi (st := [.int x26]) C (c_Mo_check v2 ho_v2) cw_Mo_check ho_v2 (lt_ rfl) rfl g_7_17 hRm ⟨⟨rfl, rfl⟩, le_ rfl, le_ rfl⟩ rfl rfl rfl (le_ rfl) (dq dk_Law_law_2 22 rfl) h (fun x28 σ27 h => ?_)
        refine ww_icmp_eq C 951 (dq dk_Law_law_2 23 rfl) (by decide) h (fun h => ?_) (fun h => ?_)
        · refine ww_iinc C 4 (fun z => [(4, .int z), (0, .ref b), (1, .ref (ad k v1)), (2, .ref (ad k v2)), (3, .ref (ad k v3))]) rfl ic_7 hnL (lt_ rfl) (fun _ => rfl) (dq dk_Law_law_14 25 rfl) h (fun x29 h => ?_)
          refine ww_goto C 23 (dq dk_Law_law_14 26 rfl) (by decide) ?_
          exact ww_lv [1, 2, 3, 4, 0] rfl (ih k C hQ hX hRm hnL hl0 (by show _ ≤ 1130; first | omega | (show _ + 1 + n ≤ 1130; omega)) (by show _ ≤ 34937; first | omega | (show _ + 6 + 6 * n ≤ 34937; omega)) v1 v2 v3 x29 ho_v1 ho_v2 ho_o σ27 h)
        · refine ww_iconst C (dq dk_Law_law_2 24 rfl) ic_0 ?_
          exact ww_lret C hQ hres (by show k.2.2.2.2.2.2.2.2.2.2.2.2.2.1 ≤ 1130; omega) (by show k.2.2.2.2.2.2.2.2.2.2.2.2.2.2 ≤ 34937; omega) (dq dk_Law_law_2 25 rfl) h
      rw [if_neg e2_2] at h
      by_cases e3_3 : x2 = 3
      · rw [if_pos e3_3] at h
        refine ww_tabIn C 239 (dq dk_Law_law_0 24 rfl) (by rw [e3_3]; decide) (by rw [e3_3]; decide) (by rw [e3_3]; rfl) (by decide) ?_
        refine ww_aload_n C 1 rfl rfl (dq dk_Law_law_2 26 rfl) ?_
        refine ww_aload_n C 0 rfl rfl (dq dk_Law_law_2 27 rfl) ?_
        refine ww_iload C 4 rfl (dq dk_Law_law_2 28 rfl) ?_
        refine ww_iconst C (dq dk_Law_law_2 29 rfl) ic_1 ?_
        refine ww_iadd C (dq dk_Law_law_2 30 rfl) ?_
        refine ww_xld C hX (dq dk_Law_law_2 31 rfl) h (fun x30 h => ?_)
        refine ww_cVi (st := []) C (c_House_fault v1 ho_v1 x30) cw_House_fault ho_v1 (lt_ rfl) rfl g_3_93 hRm ⟨⟨rfl, rfl⟩, le_ rfl, le_ rfl⟩ rfl rfl rfl (le_ rfl) (dq dk_Law_law_2 32 rfl) h (fun x32 σ31 h => ?_)
        refine ww_aload_n C 2 rfl rfl (dq dk_Law_law_2 33 rfl) ?_
        refine ww_aload_n C 0 rfl rfl (dq dk_Law_law_2 34 rfl) ?_
        refine ww_iload C 4 rfl (dq dk_Law_law_2 35 rfl) ?_
        refine ww_iconst C (dq dk_Law_law_2 36 rfl) ic_1 ?_
        refine ww_iadd C (dq dk_Law_law_2 37 rfl) ?_
        refine ww_xld C hX (dq dk_Law_law_2 38 rfl) h (fun x33 h => ?_)
        refine ww_cVi (st := [.int x32]) C (c_Mo_fault v2 ho_v2 x33) cw_Mo_fault ho_v2 (lt_ rfl) rfl g_7_80 hRm ⟨⟨rfl, rfl⟩, le_ rfl, le_ rfl⟩ rfl rfl rfl (le_ rfl) (dq dk_Law_law_2 39 rfl) h (fun x35 σ34 h => ?_)
        refine ww_icmp_eq C 951 (dq dk_Law_law_3 0 rfl) (by decide) h (fun h => ?_) (fun h => ?_)
        · refine ww_iinc C 4 (fun z => [(4, .int z), (0, .ref b), (1, .ref (ad k v1)), (2, .ref (ad k v2)), (3, .ref (ad k v3))]) rfl ic_7 hnL (lt_ rfl) (fun _ => rfl) (dq dk_Law_law_14 25 rfl) h (fun x36 h => ?_)
          refine ww_goto C 23 (dq dk_Law_law_14 26 rfl) (by decide) ?_
          exact ww_lv [1, 2, 3, 4, 0] rfl (ih k C hQ hX hRm hnL hl0 (by show _ ≤ 1130; first | omega | (show _ + 1 + n ≤ 1130; omega)) (by show _ ≤ 34937; first | omega | (show _ + 6 + 6 * n ≤ 34937; omega)) v1 v2 v3 x36 ho_v1 ho_v2 ho_o σ34 h)
        · refine ww_iconst C (dq dk_Law_law_3 1 rfl) ic_0 ?_
          exact ww_lret C hQ hres (by show k.2.2.2.2.2.2.2.2.2.2.2.2.2.1 ≤ 1130; omega) (by show k.2.2.2.2.2.2.2.2.2.2.2.2.2.2 ≤ 34937; omega) (dq dk_Law_law_3 2 rfl) h
      rw [if_neg e3_3] at h
      by_cases e4_4 : x2 = 4
      · rw [if_pos e4_4] at h
        refine ww_tabIn C 264 (dq dk_Law_law_0 24 rfl) (by rw [e4_4]; decide) (by rw [e4_4]; decide) (by rw [e4_4]; rfl) (by decide) ?_
        refine ww_aload_n C 1 rfl rfl (dq dk_Law_law_3 3 rfl) ?_
        refine ww_aload_n C 0 rfl rfl (dq dk_Law_law_3 4 rfl) ?_
        refine ww_iload C 4 rfl (dq dk_Law_law_3 5 rfl) ?_
        refine ww_iconst C (dq dk_Law_law_3 6 rfl) ic_1 ?_
        refine ww_iadd C (dq dk_Law_law_3 7 rfl) ?_
        refine ww_xld C hX (dq dk_Law_law_3 8 rfl) h (fun x37 h => ?_)
        refine ww_aload_n C 0 rfl rfl (dq dk_Law_law_3 9 rfl) ?_
        refine ww_iload C 4 rfl (dq dk_Law_law_3 10 rfl) ?_
        refine ww_iconst C (dq dk_Law_law_3 11 rfl) ic_2 ?_
        refine ww_iadd C (dq dk_Law_law_3 12 rfl) ?_
        refine ww_xld C hX (dq dk_Law_law_3 13 rfl) h (fun x38 h => ?_)
        refine ww_aload_n C 0 rfl rfl (dq dk_Law_law_3 14 rfl) ?_
        refine ww_iload C 4 rfl (dq dk_Law_law_3 15 rfl) ?_
        refine ww_iconst C (dq dk_Law_law_3 16 rfl) ic_3 ?_
        refine ww_iadd C (dq dk_Law_law_3 17 rfl) ?_
        refine ww_xld C hX (dq dk_Law_law_3 18 rfl) h (fun x39 h => ?_)
        refine ww_aload_n C 0 rfl rfl (dq dk_Law_law_3 19 rfl) ?_
        refine ww_iload C 4 rfl (dq dk_Law_law_3 20 rfl) ?_
        refine ww_iconst C (dq dk_Law_law_3 21 rfl) ic_4 ?_
        refine ww_iadd C (dq dk_Law_law_3 22 rfl) ?_
        refine ww_xld C hX (dq dk_Law_law_3 23 rfl) h (fun x40 h => ?_)
        refine ww_aload_n C 0 rfl rfl (dq dk_Law_law_3 24 rfl) ?_
        refine ww_iload C 4 rfl (dq dk_Law_law_3 25 rfl) ?_
        refine ww_iconst C (dq dk_Law_law_3 26 rfl) ic_5 ?_
        refine ww_iadd C (dq dk_Law_law_3 27 rfl) ?_
        refine ww_xld C hX (dq dk_Law_law_3 28 rfl) h (fun x41 h => ?_)
        refine ww_aload_n C 0 rfl rfl (dq dk_Law_law_3 29 rfl) ?_
        refine ww_iload C 4 rfl (dq dk_Law_law_3 30 rfl) ?_
        refine ww_bipush C (dq dk_Law_law_3 31 rfl) bp_6 ?_
        refine ww_iadd C (dq dk_Law_law_3 32 rfl) ?_
        refine ww_xld C hX (dq dk_Law_law_3 33 rfl) h (fun x42 h => ?_)
        refine ww_cVi (st := []) C (c_House_plain v1 ho_v1 x37 x38 x39 x40 x41 x42) cw_House_plain ho_v1 (lt_ rfl) rfl g_3_97 hRm ⟨⟨rfl, rfl⟩, le_ rfl, le_ rfl⟩ rfl rfl rfl (le_ rfl) (dq dk_Law_law_3 34 rfl) h (fun x44 σ43 h => ?_)
        refine ww_aload_n C 2 rfl rfl (dq dk_Law_law_3 35 rfl) ?_
        refine ww_aload_n C 0 rfl rfl (dq dk_Law_law_3 36 rfl) ?_
        refine ww_iload C 4 rfl (dq dk_Law_law_3 37 rfl) ?_
        refine ww_iconst C (dq dk_Law_law_3 38 rfl) ic_1 ?_
        refine ww_iadd C (dq dk_Law_law_3 39 rfl) ?_
        refine ww_xld C hX (dq dk_Law_law_4 0 rfl) h (fun x45 h => ?_)
        refine ww_aload_n C 0 rfl rfl (dq dk_Law_law_4 1 rfl) ?_
        refine ww_iload C 4 rfl (dq dk_Law_law_4 2 rfl) ?_
        refine ww_iconst C (dq dk_Law_law_4 3 rfl) ic_2 ?_
        refine ww_iadd C (dq dk_Law_law_4 4 rfl) ?_
        refine ww_xld C hX (dq dk_Law_law_4 5 rfl) h (fun x46 h => ?_)
        refine ww_aload_n C 0 rfl rfl (dq dk_Law_law_4 6 rfl) ?_
        refine ww_iload C 4 rfl (dq dk_Law_law_4 7 rfl) ?_
        refine ww_iconst C (dq dk_Law_law_4 8 rfl) ic_3 ?_
        refine ww_iadd C (dq dk_Law_law_4 9 rfl) ?_
        refine ww_xld C hX (dq dk_Law_law_4 10 rfl) h (fun x47 h => ?_)
        refine ww_aload_n C 0 rfl rfl (dq dk_Law_law_4 11 rfl) ?_
        refine ww_iload C 4 rfl (dq dk_Law_law_4 12 rfl) ?_
        refine ww_iconst C (dq dk_Law_law_4 13 rfl) ic_4 ?_
        refine ww_iadd C (dq dk_Law_law_4 14 rfl) ?_
        refine ww_xld C hX (dq dk_Law_law_4 15 rfl) h (fun x48 h => ?_)
        refine ww_aload_n C 0 rfl rfl (dq dk_Law_law_4 16 rfl) ?_
        refine ww_iload C 4 rfl (dq dk_Law_law_4 17 rfl) ?_
        refine ww_iconst C (dq dk_Law_law_4 18 rfl) ic_5 ?_
        refine ww_iadd C (dq dk_Law_law_4 19 rfl) ?_
        refine ww_xld C hX (dq dk_Law_law_4 20 rfl) h (fun x49 h => ?_)
        refine ww_aload_n C 0 rfl rfl (dq dk_Law_law_4 21 rfl) ?_
        refine ww_iload C 4 rfl (dq dk_Law_law_4 22 rfl) ?_
        refine ww_bipush C (dq dk_Law_law_4 23 rfl) bp_6 ?_
        refine ww_iadd C (dq dk_Law_law_4 24 rfl) ?_
        refine ww_xld C hX (dq dk_Law_law_4 25 rfl) h (fun x50 h => ?_)
        refine ww_cVi (st := [.int x44]) C (c_Mo_plain v2 ho_v2 x45 x46 x47 x48 x49 x50) cw_Mo_plain ho_v2 (lt_ rfl) rfl g_7_84 hRm ⟨⟨rfl, rfl⟩, le_ rfl, le_ rfl⟩ rfl rfl rfl (le_ rfl) (dq dk_Law_law_4 26 rfl) h (fun x52 σ51 h => ?_)
        refine ww_icmp_eq C 951 (dq dk_Law_law_4 27 rfl) (by decide) h (fun h => ?_) (fun h => ?_)
        · refine ww_iinc C 4 (fun z => [(4, .int z), (0, .ref b), (1, .ref (ad k v1)), (2, .ref (ad k v2)), (3, .ref (ad k v3))]) rfl ic_7 hnL (lt_ rfl) (fun _ => rfl) (dq dk_Law_law_14 25 rfl) h (fun x53 h => ?_)
          refine ww_goto C 23 (dq dk_Law_law_14 26 rfl) (by decide) ?_
          exact ww_lv [1, 2, 3, 4, 0] rfl (ih k C hQ hX hRm hnL hl0 (by show _ ≤ 1130; first | omega | (show _ + 1 + n ≤ 1130; omega)) (by show _ ≤ 34937; first | omega | (show _ + 6 + 6 * n ≤ 34937; omega)) v1 v2 v3 x53 ho_v1 ho_v2 ho_o σ51 h)
        · refine ww_iconst C (dq dk_Law_law_4 28 rfl) ic_0 ?_
          exact ww_lret C hQ hres (by show k.2.2.2.2.2.2.2.2.2.2.2.2.2.1 ≤ 1130; omega) (by show k.2.2.2.2.2.2.2.2.2.2.2.2.2.2 ≤ 34937; omega) (dq dk_Law_law_4 29 rfl) h
      rw [if_neg e4_4] at h
      by_cases e5_5 : x2 = 5
      · rw [if_pos e5_5] at h
        refine ww_tabIn C 351 (dq dk_Law_law_0 24 rfl) (by rw [e5_5]; decide) (by rw [e5_5]; decide) (by rw [e5_5]; rfl) (by decide) ?_
        refine ww_aload_n C 1 rfl rfl (dq dk_Law_law_4 30 rfl) ?_
        refine ww_aload_n C 0 rfl rfl (dq dk_Law_law_4 31 rfl) ?_
        refine ww_iload C 4 rfl (dq dk_Law_law_4 32 rfl) ?_
        refine ww_iconst C (dq dk_Law_law_4 33 rfl) ic_1 ?_
        refine ww_iadd C (dq dk_Law_law_4 34 rfl) ?_
        refine ww_xld C hX (dq dk_Law_law_4 35 rfl) h (fun x54 h => ?_)
        refine ww_aload_n C 0 rfl rfl (dq dk_Law_law_4 36 rfl) ?_
        refine ww_iload C 4 rfl (dq dk_Law_law_4 37 rfl) ?_
        refine ww_iconst C (dq dk_Law_law_4 38 rfl) ic_2 ?_
        refine ww_iadd C (dq dk_Law_law_4 39 rfl) ?_
        refine ww_xld C hX (dq dk_Law_law_5 0 rfl) h (fun x55 h => ?_)
        refine ww_aload_n C 0 rfl rfl (dq dk_Law_law_5 1 rfl) ?_
        refine ww_iload C 4 rfl (dq dk_Law_law_5 2 rfl) ?_
        refine ww_iconst C (dq dk_Law_law_5 3 rfl) ic_3 ?_
        refine ww_iadd C (dq dk_Law_law_5 4 rfl) ?_
        refine ww_xld C hX (dq dk_Law_law_5 5 rfl) h (fun x56 h => ?_)
        refine ww_cVi (st := []) C (c_House_flow v1 ho_v1 x54 x55 x56) cw_House_flow ho_v1 (lt_ rfl) rfl g_3_127 hRm ⟨⟨rfl, rfl⟩, le_ rfl, le_ rfl⟩ rfl rfl rfl (le_ rfl) (dq dk_Law_law_5 6 rfl) h (fun x58 σ57 h => ?_)
        refine ww_aload_n C 2 rfl rfl (dq dk_Law_law_5 7 rfl) ?_
        refine ww_aload_n C 0 rfl rfl (dq dk_Law_law_5 8 rfl) ?_
        refine ww_iload C 4 rfl (dq dk_Law_law_5 9 rfl) ?_
        refine ww_iconst C (dq dk_Law_law_5 10 rfl) ic_1 ?_
        refine ww_iadd C (dq dk_Law_law_5 11 rfl) ?_
        refine ww_xld C hX (dq dk_Law_law_5 12 rfl) h (fun x59 h => ?_)
        refine ww_aload_n C 0 rfl rfl (dq dk_Law_law_5 13 rfl) ?_
        refine ww_iload C 4 rfl (dq dk_Law_law_5 14 rfl) ?_
        refine ww_iconst C (dq dk_Law_law_5 15 rfl) ic_2 ?_
        refine ww_iadd C (dq dk_Law_law_5 16 rfl) ?_
        refine ww_xld C hX (dq dk_Law_law_5 17 rfl) h (fun x60 h => ?_)
        refine ww_aload_n C 0 rfl rfl (dq dk_Law_law_5 18 rfl) ?_
        refine ww_iload C 4 rfl (dq dk_Law_law_5 19 rfl) ?_
        refine ww_iconst C (dq dk_Law_law_5 20 rfl) ic_3 ?_
        refine ww_iadd C (dq dk_Law_law_5 21 rfl) ?_
        refine ww_xld C hX (dq dk_Law_law_5 22 rfl) h (fun x61 h => ?_)
        refine ww_cVi (st := [.int x58]) C (c_Mo_flow v2 ho_v2 x59 x60 x61) cw_Mo_flow ho_v2 (lt_ rfl) rfl g_7_106 hRm ⟨⟨rfl, rfl⟩, le_ rfl, le_ rfl⟩ rfl rfl rfl (le_ rfl) (dq dk_Law_law_5 23 rfl) h (fun x63 σ62 h => ?_)
        refine ww_icmp_eq C 951 (dq dk_Law_law_5 24 rfl) (by decide) h (fun h => ?_) (fun h => ?_)
        · refine ww_iinc C 4 (fun z => [(4, .int z), (0, .ref b), (1, .ref (ad k v1)), (2, .ref (ad k v2)), (3, .ref (ad k v3))]) rfl ic_7 hnL (lt_ rfl) (fun _ => rfl) (dq dk_Law_law_14 25 rfl) h (fun x64 h => ?_)
          refine ww_goto C 23 (dq dk_Law_law_14 26 rfl) (by decide) ?_
          exact ww_lv [1, 2, 3, 4, 0] rfl (ih k C hQ hX hRm hnL hl0 (by show _ ≤ 1130; first | omega | (show _ + 1 + n ≤ 1130; omega)) (by show _ ≤ 34937; first | omega | (show _ + 6 + 6 * n ≤ 34937; omega)) v1 v2 v3 x64 ho_v1 ho_v2 ho_o σ62 h)
        · refine ww_iconst C (dq dk_Law_law_5 25 rfl) ic_0 ?_
          exact ww_lret C hQ hres (by show k.2.2.2.2.2.2.2.2.2.2.2.2.2.1 ≤ 1130; omega) (by show k.2.2.2.2.2.2.2.2.2.2.2.2.2.2 ≤ 34937; omega) (dq dk_Law_law_5 26 rfl) h
      rw [if_neg e5_5] at h
      by_cases e6_6 : x2 = 6
      · rw [if_pos e6_6] at h
        refine ww_tabIn C 400 (dq dk_Law_law_0 24 rfl) (by rw [e6_6]; decide) (by rw [e6_6]; decide) (by rw [e6_6]; rfl) (by decide) ?_
        refine ww_aload_n C 1 rfl rfl (dq dk_Law_law_5 27 rfl) ?_
        refine ww_cVi (st := []) C (c_House_clear v1 ho_v1) cw_House_clear ho_v1 (lt_ rfl) rfl g_3_142 hRm ⟨⟨rfl, rfl⟩, le_ rfl, le_ rfl⟩ rfl rfl rfl (le_ rfl) (dq dk_Law_law_5 28 rfl) h (fun x66 σ65 h => ?_)
        refine ww_aload_n C 2 rfl rfl (dq dk_Law_law_5 29 rfl) ?_
        refine ww_cVi (st := [.int x66]) C (c_Mo_clear v2 ho_v2) cw_Mo_clear ho_v2 (lt_ rfl) rfl g_7_110 hRm ⟨⟨rfl, rfl⟩, le_ rfl, le_ rfl⟩ rfl rfl rfl (le_ rfl) (dq dk_Law_law_5 30 rfl) h (fun x68 σ67 h => ?_)
        refine ww_icmp_eq C 951 (dq dk_Law_law_5 31 rfl) (by decide) h (fun h => ?_) (fun h => ?_)
        · refine ww_iinc C 4 (fun z => [(4, .int z), (0, .ref b), (1, .ref (ad k v1)), (2, .ref (ad k v2)), (3, .ref (ad k v3))]) rfl ic_7 hnL (lt_ rfl) (fun _ => rfl) (dq dk_Law_law_14 25 rfl) h (fun x69 h => ?_)
          refine ww_goto C 23 (dq dk_Law_law_14 26 rfl) (by decide) ?_
          exact ww_lv [1, 2, 3, 4, 0] rfl (ih k C hQ hX hRm hnL hl0 (by show _ ≤ 1130; first | omega | (show _ + 1 + n ≤ 1130; omega)) (by show _ ≤ 34937; first | omega | (show _ + 6 + 6 * n ≤ 34937; omega)) v1 v2 v3 x69 ho_v1 ho_v2 ho_o σ67 h)
        · refine ww_iconst C (dq dk_Law_law_5 32 rfl) ic_0 ?_
          exact ww_lret C hQ hres (by show k.2.2.2.2.2.2.2.2.2.2.2.2.2.1 ≤ 1130; omega) (by show k.2.2.2.2.2.2.2.2.2.2.2.2.2.2 ≤ 34937; omega) (dq dk_Law_law_5 33 rfl) h
      rw [if_neg e6_6] at h
      by_cases e7_7 : x2 = 7
      · rw [if_pos e7_7] at h
        refine ww_tabIn C 413 (dq dk_Law_law_0 24 rfl) (by rw [e7_7]; decide) (by rw [e7_7]; decide) (by rw [e7_7]; rfl) (by decide) ?_
        refine ww_aload_n C 1 rfl rfl (dq dk_Law_law_5 34 rfl) ?_
        refine ww_cVi (st := []) C (c_House_build v1 ho_v1) cw_House_build ho_v1 (lt_ rfl) rfl g_3_146 hRm ⟨⟨rfl, rfl⟩, le_ rfl, le_ rfl⟩ rfl rfl rfl (le_ rfl) (dq dk_Law_law_5 35 rfl) h (fun x71 σ70 h => ?_)
        refine ww_aload_n C 2 rfl rfl (dq dk_Law_law_5 36 rfl) ?_
        refine ww_cVi (st := [.int x71]) C (c_Mo_build v2 ho_v2) cw_Mo_build ho_v2 (lt_ rfl) rfl g_7_114 hRm ⟨⟨rfl, rfl⟩, le_ rfl, le_ rfl⟩ rfl rfl rfl (le_ rfl) (dq dk_Law_law_5 37 rfl) h (fun x73 σ72 h => ?_)
        refine ww_icmp_eq C 951 (dq dk_Law_law_5 38 rfl) (by decide) h (fun h => ?_) (fun h => ?_)
        · refine ww_iinc C 4 (fun z => [(4, .int z), (0, .ref b), (1, .ref (ad k v1)), (2, .ref (ad k v2)), (3, .ref (ad k v3))]) rfl ic_7 hnL (lt_ rfl) (fun _ => rfl) (dq dk_Law_law_14 25 rfl) h (fun x74 h => ?_)
          refine ww_goto C 23 (dq dk_Law_law_14 26 rfl) (by decide) ?_
          exact ww_lv [1, 2, 3, 4, 0] rfl (ih k C hQ hX hRm hnL hl0 (by show _ ≤ 1130; first | omega | (show _ + 1 + n ≤ 1130; omega)) (by show _ ≤ 34937; first | omega | (show _ + 6 + 6 * n ≤ 34937; omega)) v1 v2 v3 x74 ho_v1 ho_v2 ho_o σ72 h)
        · refine ww_iconst C (dq dk_Law_law_5 39 rfl) ic_0 ?_
          exact ww_lret C hQ hres (by show k.2.2.2.2.2.2.2.2.2.2.2.2.2.1 ≤ 1130; omega) (by show k.2.2.2.2.2.2.2.2.2.2.2.2.2.2 ≤ 34937; omega) (dq dk_Law_law_6 0 rfl) h
      rw [if_neg e7_7] at h
      by_cases e8_8 : x2 = 8
      · rw [if_pos e8_8] at h
        refine ww_tabIn C 426 (dq dk_Law_law_0 24 rfl) (by rw [e8_8]; decide) (by rw [e8_8]; decide) (by rw [e8_8]; rfl) (by decide) ?_
        refine ww_aload_n C 1 rfl rfl (dq dk_Law_law_6 1 rfl) ?_
        refine ww_cVi (st := []) C (c_House_size v1 ho_v1) cw_House_size ho_v1 (lt_ rfl) rfl g_4_107 hRm ⟨⟨rfl, rfl⟩, le_ rfl, le_ rfl⟩ rfl rfl rfl (le_ rfl) (dq dk_Law_law_6 2 rfl) h (fun x76 σ75 h => ?_)
        refine ww_aload_n C 2 rfl rfl (dq dk_Law_law_6 3 rfl) ?_
        refine ww_cVi (st := [.int x76]) C (c_Mo_size v2 ho_v2) cw_Mo_size ho_v2 (lt_ rfl) rfl g_7_196 hRm ⟨⟨rfl, rfl⟩, le_ rfl, le_ rfl⟩ rfl rfl rfl (le_ rfl) (dq dk_Law_law_6 4 rfl) h (fun x78 σ77 h => ?_)
        refine ww_icmp_eq C 951 (dq dk_Law_law_6 5 rfl) (by decide) h (fun h => ?_) (fun h => ?_)
        · refine ww_iinc C 4 (fun z => [(4, .int z), (0, .ref b), (1, .ref (ad k v1)), (2, .ref (ad k v2)), (3, .ref (ad k v3))]) rfl ic_7 hnL (lt_ rfl) (fun _ => rfl) (dq dk_Law_law_14 25 rfl) h (fun x79 h => ?_)
          refine ww_goto C 23 (dq dk_Law_law_14 26 rfl) (by decide) ?_
          exact ww_lv [1, 2, 3, 4, 0] rfl (ih k C hQ hX hRm hnL hl0 (by show _ ≤ 1130; first | omega | (show _ + 1 + n ≤ 1130; omega)) (by show _ ≤ 34937; first | omega | (show _ + 6 + 6 * n ≤ 34937; omega)) v1 v2 v3 x79 ho_v1 ho_v2 ho_o σ77 h)
        · refine ww_iconst C (dq dk_Law_law_6 6 rfl) ic_0 ?_
          exact ww_lret C hQ hres (by show k.2.2.2.2.2.2.2.2.2.2.2.2.2.1 ≤ 1130; omega) (by show k.2.2.2.2.2.2.2.2.2.2.2.2.2.2 ≤ 34937; omega) (dq dk_Law_law_6 7 rfl) h
      rw [if_neg e8_8] at h
      by_cases e9_9 : x2 = 9
      · rw [if_pos e9_9] at h
        refine ww_tabIn C 439 (dq dk_Law_law_0 24 rfl) (by rw [e9_9]; decide) (by rw [e9_9]; decide) (by rw [e9_9]; rfl) (by decide) ?_
        refine ww_aload_n C 1 rfl rfl (dq dk_Law_law_6 8 rfl) ?_
        refine ww_aload_n C 0 rfl rfl (dq dk_Law_law_6 9 rfl) ?_
        refine ww_iload C 4 rfl (dq dk_Law_law_6 10 rfl) ?_
        refine ww_iconst C (dq dk_Law_law_6 11 rfl) ic_1 ?_
        refine ww_iadd C (dq dk_Law_law_6 12 rfl) ?_
        refine ww_xld C hX (dq dk_Law_law_6 13 rfl) h (fun x80 h => ?_)
        refine ww_cVi (st := []) C (c_House_code v1 ho_v1 x80) cw_House_code ho_v1 (lt_ rfl) rfl g_4_111 hRm ⟨⟨rfl, rfl⟩, le_ rfl, le_ rfl⟩ rfl rfl rfl (le_ rfl) (dq dk_Law_law_6 14 rfl) h (fun x82 σ81 h => ?_)
        refine ww_aload_n C 2 rfl rfl (dq dk_Law_law_6 15 rfl) ?_
        refine ww_aload_n C 0 rfl rfl (dq dk_Law_law_6 16 rfl) ?_
        refine ww_iload C 4 rfl (dq dk_Law_law_6 17 rfl) ?_
        refine ww_iconst C (dq dk_Law_law_6 18 rfl) ic_1 ?_
        refine ww_iadd C (dq dk_Law_law_6 19 rfl) ?_
        refine ww_xld C hX (dq dk_Law_law_6 20 rfl) h (fun x83 h => ?_)
        refine ww_cVi (st := [.int x82]) C (c_Mo_code v2 ho_v2 x83) cw_Mo_code ho_v2 (lt_ rfl) rfl g_7_200 hRm ⟨⟨rfl, rfl⟩, le_ rfl, le_ rfl⟩ rfl rfl rfl (le_ rfl) (dq dk_Law_law_6 21 rfl) h (fun x85 σ84 h => ?_)
        refine ww_icmp_eq C 951 (dq dk_Law_law_6 22 rfl) (by decide) h (fun h => ?_) (fun h => ?_)
        · refine ww_iinc C 4 (fun z => [(4, .int z), (0, .ref b), (1, .ref (ad k v1)), (2, .ref (ad k v2)), (3, .ref (ad k v3))]) rfl ic_7 hnL (lt_ rfl) (fun _ => rfl) (dq dk_Law_law_14 25 rfl) h (fun x86 h => ?_)
          refine ww_goto C 23 (dq dk_Law_law_14 26 rfl) (by decide) ?_
          exact ww_lv [1, 2, 3, 4, 0] rfl (ih k C hQ hX hRm hnL hl0 (by show _ ≤ 1130; first | omega | (show _ + 1 + n ≤ 1130; omega)) (by show _ ≤ 34937; first | omega | (show _ + 6 + 6 * n ≤ 34937; omega)) v1 v2 v3 x86 ho_v1 ho_v2 ho_o σ84 h)
        · refine ww_iconst C (dq dk_Law_law_6 23 rfl) ic_0 ?_
          exact ww_lret C hQ hres (by show k.2.2.2.2.2.2.2.2.2.2.2.2.2.1 ≤ 1130; omega) (by show k.2.2.2.2.2.2.2.2.2.2.2.2.2.2 ≤ 34937; omega) (dq dk_Law_law_6 24 rfl) h
      rw [if_neg e9_9] at h
      by_cases e10_10 : x2 = 10
      · rw [if_pos e10_10] at h
        refine ww_tabIn C 464 (dq dk_Law_law_0 24 rfl) (by rw [e10_10]; decide) (by rw [e10_10]; decide) (by rw [e10_10]; rfl) (by decide) ?_
        refine ww_aload_n C 1 rfl rfl (dq dk_Law_law_6 25 rfl) ?_
        refine ww_aload_n C 0 rfl rfl (dq dk_Law_law_6 26 rfl) ?_
        refine ww_iload C 4 rfl (dq dk_Law_law_6 27 rfl) ?_
        refine ww_iconst C (dq dk_Law_law_6 28 rfl) ic_1 ?_
        refine ww_iadd C (dq dk_Law_law_6 29 rfl) ?_
        refine ww_xld C hX (dq dk_Law_law_6 30 rfl) h (fun x87 h => ?_)
        refine ww_aload_n C 0 rfl rfl (dq dk_Law_law_6 31 rfl) ?_
        refine ww_iload C 4 rfl (dq dk_Law_law_6 32 rfl) ?_
        refine ww_iconst C (dq dk_Law_law_6 33 rfl) ic_2 ?_
        refine ww_iadd C (dq dk_Law_law_6 34 rfl) ?_
        refine ww_xld C hX (dq dk_Law_law_6 35 rfl) h (fun x88 h => ?_)
        refine ww_aload_n C 3 rfl rfl (dq dk_Law_law_6 36 rfl) ?_
        refine ww_hcall (st := []) C (c_Law_decoded v1 x87 x88 v3 ho_v1 ho_o) hl0 cw_Law_decoded g_4_155 hRm ⟨⟨rfl, rfl⟩, le_ rfl, le_ rfl⟩ ⟨by show _ ≤ 1130; omega, by show _ ≤ 34937; omega⟩ rfl rfl rfl (le_ rfl) (dq dk_Law_law_6 37 rfl) h (fun x89 σ90 h => ?_)
        have C := cx_up C (n := 1) (r := 6) (by rw [hRm]; exact ⟨by show _ ≤ 1130; omega, by show _ ≤ 34937; omega⟩)
        refine ww_istore C [(5, .int x89), (0, .ref b), (1, .ref (ad k v1)), (2, .ref (ad k v2)), (3, .ref (ad k v3)), (4, .int v4)] hnL (lt_ rfl) rfl (dq dk_Law_law_6 38 rfl) ?_
        refine ww_aload_n C 3 rfl rfl (dq dk_Law_law_6 39 rfl) ?_
        refine ww_aload_n C 1 rfl rfl (dq dk_Law_law_7 0 rfl) ?_
        refine ww_iload C 5 rfl (dq dk_Law_law_7 1 rfl) ?_
        refine ww_iconst C (dq dk_Law_law_7 2 rfl) ic_1 ?_
        refine ww_iadd C (dq dk_Law_law_7 3 rfl) ?_
        refine ww_xld C hX (dq dk_Law_law_7 4 rfl) h (fun x91 h => ?_)
        refine ww_aload_n C 1 rfl rfl (dq dk_Law_law_7 5 rfl) ?_
        refine ww_iload C 5 rfl (dq dk_Law_law_7 6 rfl) ?_
        refine ww_iconst C (dq dk_Law_law_7 7 rfl) ic_2 ?_
        refine ww_iadd C (dq dk_Law_law_7 8 rfl) ?_
        refine ww_xld C hX (dq dk_Law_law_7 9 rfl) h (fun x92 h => ?_)
        refine ww_cVi (st := []) C (c_Mo_decoded v2 ho_v2 x91 x92) cw_Mo_decoded ho_v2 (lt_ rfl) rfl g_7_204 hRm ⟨⟨rfl, rfl⟩, le_ rfl, le_ rfl⟩ rfl rfl rfl (le_ rfl) (dq dk_Law_law_7 10 rfl) h (fun x94 σ93 h => ?_)
        refine ww_istore C [(6, .int x94), (5, .int x89), (0, .ref b), (1, .ref (ad k v1)), (2, .ref (ad k v2)), (3, .ref (ad k v3)), (4, .int v4)] hnL (lt_ rfl) rfl (dq dk_Law_law_7 11 rfl) ?_
        refine ww_aload_n C 4 rfl rfl (dq dk_Law_law_7 12 rfl) ?_
        refine ww_cVi (st := []) C (c_Mo_thrown v2 ho_v2) cw_Mo_thrown ho_v2 (lt_ rfl) rfl g_7_1 hRm ⟨⟨rfl, rfl⟩, le_ rfl, le_ rfl⟩ rfl rfl rfl (le_ rfl) (dq dk_Law_law_7 13 rfl) h (fun x96 σ95 h => ?_)
        refine ww_iload C 1 rfl (dq dk_Law_law_7 14 rfl) ?_
        refine ww_icmp_eq C 512 (dq dk_Law_law_7 15 rfl) (by decide) h (fun h => ?_) (fun h => ?_)
        · refine ww_iload C 1 rfl (dq dk_Law_law_7 18 rfl) ?_
          refine ww_if_ne C 529 (dq dk_Law_law_7 19 rfl) (by decide) h (fun h => ?_) (fun h => ?_)
          · refine ww_goto C 951 (dq dk_Law_law_7 29 rfl) (by decide) ?_
            refine ww_iinc C 6 (fun z => [(4, .int z), (6, .int x94), (5, .int x89), (0, .ref b), (1, .ref (ad k v1)), (2, .ref (ad k v2)), (3, .ref (ad k v3))]) rfl ic_7 hnL (lt_ rfl) (fun _ => rfl) (dq dk_Law_law_14 25 rfl) h (fun x97 h => ?_)
            refine ww_goto C 23 (dq dk_Law_law_14 26 rfl) (by decide) ?_
            exact ww_lv [3, 4, 5, 6, 0] rfl (ih (kup k 1 6) C hQ hX hRm hnL hl0 (by show _ ≤ 1130; first | omega | (show _ + 1 + n ≤ 1130; omega)) (by show _ ≤ 34937; first | omega | (show _ + 6 + 6 * n ≤ 34937; omega)) v1 v2 v3 x97 ho_v1 ho_v2 ho_o σ95 h)
          · refine ww_aload_n C 5 rfl rfl (dq dk_Law_law_7 20 rfl) ?_
            refine ww_iconst C (dq dk_Law_law_7 21 rfl) ic_0 ?_
            refine ww_lald C ho_o.1 ho_o.2 (dq dk_Law_law_7 22 rfl) h (fun x98 h => ?_)
            refine ww_iload C 0 rfl (dq dk_Law_law_7 23 rfl) ?_
            refine ww_i2l C (dq dk_Law_law_7 24 rfl) ?_
            refine ww_lcmp C (dq dk_Law_law_7 25 rfl) ?_
            refine ww_if_eq C 529 (dq dk_Law_law_7 26 rfl) (by decide) h (fun h => ?_) (fun h => ?_)
            · refine ww_goto C 951 (dq dk_Law_law_7 29 rfl) (by decide) ?_
              refine ww_iinc C 6 (fun z => [(4, .int z), (6, .int x94), (5, .int x89), (0, .ref b), (1, .ref (ad k v1)), (2, .ref (ad k v2)), (3, .ref (ad k v3))]) rfl ic_7 hnL (lt_ rfl) (fun _ => rfl) (dq dk_Law_law_14 25 rfl) h (fun x99 h => ?_)
              refine ww_goto C 23 (dq dk_Law_law_14 26 rfl) (by decide) ?_
              exact ww_lv [3, 4, 5, 6, 0] rfl (ih (kup k 1 6) C hQ hX hRm hnL hl0 (by show _ ≤ 1130; first | omega | (show _ + 1 + n ≤ 1130; omega)) (by show _ ≤ 34937; first | omega | (show _ + 6 + 6 * n ≤ 34937; omega)) v1 v2 v3 x99 ho_v1 ho_v2 ho_o σ95 h)
            · refine ww_iconst C (dq dk_Law_law_7 27 rfl) ic_0 ?_
              exact ww_lret C hQ hres (by show k.2.2.2.2.2.2.2.2.2.2.2.2.2.1 + 1 ≤ 1130; omega) (by show k.2.2.2.2.2.2.2.2.2.2.2.2.2.2 + 6 ≤ 34937; omega) (dq dk_Law_law_7 28 rfl) h
        · refine ww_iconst C (dq dk_Law_law_7 16 rfl) ic_0 ?_
          exact ww_lret C hQ hres (by show k.2.2.2.2.2.2.2.2.2.2.2.2.2.1 + 1 ≤ 1130; omega) (by show k.2.2.2.2.2.2.2.2.2.2.2.2.2.2 + 6 ≤ 34937; omega) (dq dk_Law_law_7 17 rfl) h
      rw [if_neg e10_10] at h
      by_cases e11_11 : x2 = 11
      · rw [if_pos e11_11] at h
        refine ww_tabIn C 532 (dq dk_Law_law_0 24 rfl) (by rw [e11_11]; decide) (by rw [e11_11]; decide) (by rw [e11_11]; rfl) (by decide) ?_
        refine ww_aload_n C 1 rfl rfl (dq dk_Law_law_7 30 rfl) ?_
        refine ww_aload_n C 0 rfl rfl (dq dk_Law_law_7 31 rfl) ?_
        refine ww_iload C 4 rfl (dq dk_Law_law_7 32 rfl) ?_
        refine ww_iconst C (dq dk_Law_law_7 33 rfl) ic_1 ?_
        refine ww_iadd C (dq dk_Law_law_7 34 rfl) ?_
        refine ww_xld C hX (dq dk_Law_law_7 35 rfl) h (fun x100 h => ?_)
        refine ww_aload_n C 0 rfl rfl (dq dk_Law_law_7 36 rfl) ?_
        refine ww_iload C 4 rfl (dq dk_Law_law_7 37 rfl) ?_
        refine ww_iconst C (dq dk_Law_law_7 38 rfl) ic_2 ?_
        refine ww_iadd C (dq dk_Law_law_7 39 rfl) ?_
        refine ww_xld C hX (dq dk_Law_law_8 0 rfl) h (fun x101 h => ?_)
        refine ww_cVi (st := []) C (c_House_place v1 ho_v1 x100 x101) cw_House_place ho_v1 (lt_ rfl) rfl g_4_116 hRm ⟨⟨rfl, rfl⟩, le_ rfl, le_ rfl⟩ rfl rfl rfl (le_ rfl) (dq dk_Law_law_8 1 rfl) h (fun x103 σ102 h => ?_)
        refine ww_aload_n C 2 rfl rfl (dq dk_Law_law_8 2 rfl) ?_
        refine ww_aload_n C 0 rfl rfl (dq dk_Law_law_8 3 rfl) ?_
        refine ww_iload C 4 rfl (dq dk_Law_law_8 4 rfl) ?_
        refine ww_iconst C (dq dk_Law_law_8 5 rfl) ic_1 ?_
        refine ww_iadd C (dq dk_Law_law_8 6 rfl) ?_
        refine ww_xld C hX (dq dk_Law_law_8 7 rfl) h (fun x104 h => ?_)
        refine ww_aload_n C 0 rfl rfl (dq dk_Law_law_8 8 rfl) ?_
        refine ww_iload C 4 rfl (dq dk_Law_law_8 9 rfl) ?_
        refine ww_iconst C (dq dk_Law_law_8 10 rfl) ic_2 ?_
        refine ww_iadd C (dq dk_Law_law_8 11 rfl) ?_
        refine ww_xld C hX (dq dk_Law_law_8 12 rfl) h (fun x105 h => ?_)
        refine ww_cVi (st := [.int x103]) C (c_Mo_place v2 ho_v2 x104 x105) cw_Mo_place ho_v2 (lt_ rfl) rfl g_7_212 hRm ⟨⟨rfl, rfl⟩, le_ rfl, le_ rfl⟩ rfl rfl rfl (le_ rfl) (dq dk_Law_law_8 13 rfl) h (fun x107 σ106 h => ?_)
        refine ww_icmp_eq C 951 (dq dk_Law_law_8 14 rfl) (by decide) h (fun h => ?_) (fun h => ?_)
        · refine ww_iinc C 4 (fun z => [(4, .int z), (0, .ref b), (1, .ref (ad k v1)), (2, .ref (ad k v2)), (3, .ref (ad k v3))]) rfl ic_7 hnL (lt_ rfl) (fun _ => rfl) (dq dk_Law_law_14 25 rfl) h (fun x108 h => ?_)
          refine ww_goto C 23 (dq dk_Law_law_14 26 rfl) (by decide) ?_
          exact ww_lv [1, 2, 3, 4, 0] rfl (ih k C hQ hX hRm hnL hl0 (by show _ ≤ 1130; first | omega | (show _ + 1 + n ≤ 1130; omega)) (by show _ ≤ 34937; first | omega | (show _ + 6 + 6 * n ≤ 34937; omega)) v1 v2 v3 x108 ho_v1 ho_v2 ho_o σ106 h)
        · refine ww_iconst C (dq dk_Law_law_8 15 rfl) ic_0 ?_
          exact ww_lret C hQ hres (by show k.2.2.2.2.2.2.2.2.2.2.2.2.2.1 ≤ 1130; omega) (by show k.2.2.2.2.2.2.2.2.2.2.2.2.2.2 ≤ 34937; omega) (dq dk_Law_law_8 16 rfl) h
      rw [if_neg e11_11] at h
      by_cases e12_12 : x2 = 12
      · rw [if_pos e12_12] at h
        refine ww_tabIn C 569 (dq dk_Law_law_0 24 rfl) (by rw [e12_12]; decide) (by rw [e12_12]; decide) (by rw [e12_12]; rfl) (by decide) ?_
        refine ww_aload_n C 1 rfl rfl (dq dk_Law_law_8 17 rfl) ?_
        refine ww_aload_n C 0 rfl rfl (dq dk_Law_law_8 18 rfl) ?_
        refine ww_iload C 4 rfl (dq dk_Law_law_8 19 rfl) ?_
        refine ww_iconst C (dq dk_Law_law_8 20 rfl) ic_1 ?_
        refine ww_iadd C (dq dk_Law_law_8 21 rfl) ?_
        refine ww_xld C hX (dq dk_Law_law_8 22 rfl) h (fun x109 h => ?_)
        refine ww_aload_n C 0 rfl rfl (dq dk_Law_law_8 23 rfl) ?_
        refine ww_iload C 4 rfl (dq dk_Law_law_8 24 rfl) ?_
        refine ww_iconst C (dq dk_Law_law_8 25 rfl) ic_2 ?_
        refine ww_iadd C (dq dk_Law_law_8 26 rfl) ?_
        refine ww_xld C hX (dq dk_Law_law_8 27 rfl) h (fun x110 h => ?_)
        refine ww_aload_n C 0 rfl rfl (dq dk_Law_law_8 28 rfl) ?_
        refine ww_iload C 4 rfl (dq dk_Law_law_8 29 rfl) ?_
        refine ww_iconst C (dq dk_Law_law_8 30 rfl) ic_3 ?_
        refine ww_iadd C (dq dk_Law_law_8 31 rfl) ?_
        refine ww_xld C hX (dq dk_Law_law_8 32 rfl) h (fun x111 h => ?_)
        refine ww_cVi (st := []) C (c_House_set v1 ho_v1 x109 x110 x111) cw_House_set ho_v1 (lt_ rfl) rfl g_4_122 hRm ⟨⟨rfl, rfl⟩, le_ rfl, le_ rfl⟩ rfl rfl rfl (le_ rfl) (dq dk_Law_law_8 33 rfl) h (fun x113 σ112 h => ?_)
        refine ww_aload_n C 2 rfl rfl (dq dk_Law_law_8 34 rfl) ?_
        refine ww_aload_n C 0 rfl rfl (dq dk_Law_law_8 35 rfl) ?_
        refine ww_iload C 4 rfl (dq dk_Law_law_8 36 rfl) ?_
        refine ww_iconst C (dq dk_Law_law_8 37 rfl) ic_1 ?_
        refine ww_iadd C (dq dk_Law_law_8 38 rfl) ?_
        refine ww_xld C hX (dq dk_Law_law_8 39 rfl) h (fun x114 h => ?_)
        refine ww_aload_n C 0 rfl rfl (dq dk_Law_law_9 0 rfl) ?_
        refine ww_iload C 4 rfl (dq dk_Law_law_9 1 rfl) ?_
        refine ww_iconst C (dq dk_Law_law_9 2 rfl) ic_2 ?_
        refine ww_iadd C (dq dk_Law_law_9 3 rfl) ?_
        refine ww_xld C hX (dq dk_Law_law_9 4 rfl) h (fun x115 h => ?_)
        refine ww_aload_n C 0 rfl rfl (dq dk_Law_law_9 5 rfl) ?_
        refine ww_iload C 4 rfl (dq dk_Law_law_9 6 rfl) ?_
        refine ww_iconst C (dq dk_Law_law_9 7 rfl) ic_3 ?_
        refine ww_iadd C (dq dk_Law_law_9 8 rfl) ?_
        refine ww_xld C hX (dq dk_Law_law_9 9 rfl) h (fun x116 h => ?_)
        refine ww_cVi (st := [.int x113]) C (c_Mo_set v2 ho_v2 x114 x115 x116) cw_Mo_set ho_v2 (lt_ rfl) rfl g_7_216 hRm ⟨⟨rfl, rfl⟩, le_ rfl, le_ rfl⟩ rfl rfl rfl (le_ rfl) (dq dk_Law_law_9 10 rfl) h (fun x118 σ117 h => ?_)
        refine ww_icmp_eq C 951 (dq dk_Law_law_9 11 rfl) (by decide) h (fun h => ?_) (fun h => ?_)
        · refine ww_iinc C 4 (fun z => [(4, .int z), (0, .ref b), (1, .ref (ad k v1)), (2, .ref (ad k v2)), (3, .ref (ad k v3))]) rfl ic_7 hnL (lt_ rfl) (fun _ => rfl) (dq dk_Law_law_14 25 rfl) h (fun x119 h => ?_)
          refine ww_goto C 23 (dq dk_Law_law_14 26 rfl) (by decide) ?_
          exact ww_lv [1, 2, 3, 4, 0] rfl (ih k C hQ hX hRm hnL hl0 (by show _ ≤ 1130; first | omega | (show _ + 1 + n ≤ 1130; omega)) (by show _ ≤ 34937; first | omega | (show _ + 6 + 6 * n ≤ 34937; omega)) v1 v2 v3 x119 ho_v1 ho_v2 ho_o σ117 h)
        · refine ww_iconst C (dq dk_Law_law_9 12 rfl) ic_0 ?_
          exact ww_lret C hQ hres (by show k.2.2.2.2.2.2.2.2.2.2.2.2.2.1 ≤ 1130; omega) (by show k.2.2.2.2.2.2.2.2.2.2.2.2.2.2 ≤ 34937; omega) (dq dk_Law_law_9 13 rfl) h
      rw [if_neg e12_12] at h
      by_cases e13_13 : x2 = 13
      · rw [if_pos e13_13] at h
        refine ww_tabIn C 618 (dq dk_Law_law_0 24 rfl) (by rw [e13_13]; decide) (by rw [e13_13]; decide) (by rw [e13_13]; rfl) (by decide) ?_
        refine ww_aload_n C 1 rfl rfl (dq dk_Law_law_9 14 rfl) ?_
        refine ww_aload_n C 0 rfl rfl (dq dk_Law_law_9 15 rfl) ?_
        refine ww_iload C 4 rfl (dq dk_Law_law_9 16 rfl) ?_
        refine ww_iconst C (dq dk_Law_law_9 17 rfl) ic_1 ?_
        refine ww_iadd C (dq dk_Law_law_9 18 rfl) ?_
        refine ww_xld C hX (dq dk_Law_law_9 19 rfl) h (fun x120 h => ?_)
        refine ww_aload_n C 3 rfl rfl (dq dk_Law_law_9 20 rfl) ?_
        refine ww_hcall (st := []) C (c_Law_run v1 x120 v3 ho_v1 ho_o) hl0 cw_Law_run g_4_238 hRm ⟨⟨rfl, rfl⟩, le_ rfl, le_ rfl⟩ ⟨by show _ ≤ 1130; omega, by show _ ≤ 34937; omega⟩ rfl rfl rfl (le_ rfl) (dq dk_Law_law_9 21 rfl) h (fun x121 σ122 h => ?_)
        have C := cx_up C (n := 1) (r := 6) (by rw [hRm]; exact ⟨by show _ ≤ 1130; omega, by show _ ≤ 34937; omega⟩)
        refine ww_istore C [(5, .int x121), (0, .ref b), (1, .ref (ad k v1)), (2, .ref (ad k v2)), (3, .ref (ad k v3)), (4, .int v4)] hnL (lt_ rfl) rfl (dq dk_Law_law_9 22 rfl) ?_
        refine ww_aload_n C 3 rfl rfl (dq dk_Law_law_9 23 rfl) ?_
        refine ww_aload_n C 1 rfl rfl (dq dk_Law_law_9 24 rfl) ?_
        refine ww_iload C 5 rfl (dq dk_Law_law_9 25 rfl) ?_
        refine ww_iconst C (dq dk_Law_law_9 26 rfl) ic_1 ?_
        refine ww_iadd C (dq dk_Law_law_9 27 rfl) ?_
        refine ww_xld C hX (dq dk_Law_law_9 28 rfl) h (fun x123 h => ?_)
        refine ww_cVi (st := []) C (c_Mo_run v2 ho_v2 x123) cw_Mo_run ho_v2 (lt_ rfl) rfl g_7_220 hRm ⟨⟨rfl, rfl⟩, le_ rfl, le_ rfl⟩ rfl rfl rfl (le_ rfl) (dq dk_Law_law_9 29 rfl) h (fun x125 σ124 h => ?_)
        refine ww_istore C [(6, .int x125), (5, .int x121), (0, .ref b), (1, .ref (ad k v1)), (2, .ref (ad k v2)), (3, .ref (ad k v3)), (4, .int v4)] hnL (lt_ rfl) rfl (dq dk_Law_law_9 30 rfl) ?_
        refine ww_aload_n C 4 rfl rfl (dq dk_Law_law_9 31 rfl) ?_
        refine ww_cVi (st := []) C (c_Mo_thrown v2 ho_v2) cw_Mo_thrown ho_v2 (lt_ rfl) rfl g_7_1 hRm ⟨⟨rfl, rfl⟩, le_ rfl, le_ rfl⟩ rfl rfl rfl (le_ rfl) (dq dk_Law_law_9 32 rfl) h (fun x127 σ126 h => ?_)
        refine ww_iload C 1 rfl (dq dk_Law_law_9 33 rfl) ?_
        refine ww_icmp_eq C 654 (dq dk_Law_law_9 34 rfl) (by decide) h (fun h => ?_) (fun h => ?_)
        · refine ww_iload C 1 rfl (dq dk_Law_law_9 37 rfl) ?_
          refine ww_if_ne C 671 (dq dk_Law_law_9 38 rfl) (by decide) h (fun h => ?_) (fun h => ?_)
          · refine ww_goto C 951 (dq dk_Law_law_10 8 rfl) (by decide) ?_
            refine ww_iinc C 6 (fun z => [(4, .int z), (6, .int x125), (5, .int x121), (0, .ref b), (1, .ref (ad k v1)), (2, .ref (ad k v2)), (3, .ref (ad k v3))]) rfl ic_7 hnL (lt_ rfl) (fun _ => rfl) (dq dk_Law_law_14 25 rfl) h (fun x128 h => ?_)
            refine ww_goto C 23 (dq dk_Law_law_14 26 rfl) (by decide) ?_
            exact ww_lv [3, 4, 5, 6, 0] rfl (ih (kup k 1 6) C hQ hX hRm hnL hl0 (by show _ ≤ 1130; first | omega | (show _ + 1 + n ≤ 1130; omega)) (by show _ ≤ 34937; first | omega | (show _ + 6 + 6 * n ≤ 34937; omega)) v1 v2 v3 x128 ho_v1 ho_v2 ho_o σ126 h)
          · refine ww_aload_n C 5 rfl rfl (dq dk_Law_law_9 39 rfl) ?_
            refine ww_iconst C (dq dk_Law_law_10 0 rfl) ic_0 ?_
            refine ww_lald C ho_o.1 ho_o.2 (dq dk_Law_law_10 1 rfl) h (fun x129 h => ?_)
            refine ww_iload C 0 rfl (dq dk_Law_law_10 2 rfl) ?_
            refine ww_i2l C (dq dk_Law_law_10 3 rfl) ?_
            refine ww_lcmp C (dq dk_Law_law_10 4 rfl) ?_
            refine ww_if_eq C 671 (dq dk_Law_law_10 5 rfl) (by decide) h (fun h => ?_) (fun h => ?_)
            · refine ww_goto C 951 (dq dk_Law_law_10 8 rfl) (by decide) ?_
              refine ww_iinc C 6 (fun z => [(4, .int z), (6, .int x125), (5, .int x121), (0, .ref b), (1, .ref (ad k v1)), (2, .ref (ad k v2)), (3, .ref (ad k v3))]) rfl ic_7 hnL (lt_ rfl) (fun _ => rfl) (dq dk_Law_law_14 25 rfl) h (fun x130 h => ?_)
              refine ww_goto C 23 (dq dk_Law_law_14 26 rfl) (by decide) ?_
              exact ww_lv [3, 4, 5, 6, 0] rfl (ih (kup k 1 6) C hQ hX hRm hnL hl0 (by show _ ≤ 1130; first | omega | (show _ + 1 + n ≤ 1130; omega)) (by show _ ≤ 34937; first | omega | (show _ + 6 + 6 * n ≤ 34937; omega)) v1 v2 v3 x130 ho_v1 ho_v2 ho_o σ126 h)
            · refine ww_iconst C (dq dk_Law_law_10 6 rfl) ic_0 ?_
              exact ww_lret C hQ hres (by show k.2.2.2.2.2.2.2.2.2.2.2.2.2.1 + 1 ≤ 1130; omega) (by show k.2.2.2.2.2.2.2.2.2.2.2.2.2.2 + 6 ≤ 34937; omega) (dq dk_Law_law_10 7 rfl) h
        · refine ww_iconst C (dq dk_Law_law_9 35 rfl) ic_0 ?_
          exact ww_lret C hQ hres (by show k.2.2.2.2.2.2.2.2.2.2.2.2.2.1 + 1 ≤ 1130; omega) (by show k.2.2.2.2.2.2.2.2.2.2.2.2.2.2 + 6 ≤ 34937; omega) (dq dk_Law_law_9 36 rfl) h
      rw [if_neg e13_13] at h
      by_cases e14_14 : x2 = 14
      · rw [if_pos e14_14] at h
        refine ww_tabIn C 674 (dq dk_Law_law_0 24 rfl) (by rw [e14_14]; decide) (by rw [e14_14]; decide) (by rw [e14_14]; rfl) (by decide) ?_
        refine ww_aload_n C 1 rfl rfl (dq dk_Law_law_10 9 rfl) ?_
        refine ww_aload_n C 0 rfl rfl (dq dk_Law_law_10 10 rfl) ?_
        refine ww_iload C 4 rfl (dq dk_Law_law_10 11 rfl) ?_
        refine ww_iconst C (dq dk_Law_law_10 12 rfl) ic_1 ?_
        refine ww_iadd C (dq dk_Law_law_10 13 rfl) ?_
        refine ww_xld C hX (dq dk_Law_law_10 14 rfl) h (fun x131 h => ?_)
        refine ww_aload_n C 3 rfl rfl (dq dk_Law_law_10 15 rfl) ?_
        refine ww_hcall (st := []) C (c_Law_walk v1 x131 v3 ho_v1 ho_o) hl0 cw_Law_walk g_5_174 hRm ⟨⟨rfl, rfl⟩, le_ rfl, le_ rfl⟩ ⟨by show _ ≤ 1130; omega, by show _ ≤ 34937; omega⟩ rfl rfl rfl (le_ rfl) (dq dk_Law_law_10 16 rfl) h (fun x132 σ133 h => ?_)
        have C := cx_up C (n := 1) (r := 6) (by rw [hRm]; exact ⟨by show _ ≤ 1130; omega, by show _ ≤ 34937; omega⟩)
        refine ww_istore C [(5, .int x132), (0, .ref b), (1, .ref (ad k v1)), (2, .ref (ad k v2)), (3, .ref (ad k v3)), (4, .int v4)] hnL (lt_ rfl) rfl (dq dk_Law_law_10 17 rfl) ?_
        refine ww_aload_n C 3 rfl rfl (dq dk_Law_law_10 18 rfl) ?_
        refine ww_aload_n C 1 rfl rfl (dq dk_Law_law_10 19 rfl) ?_
        refine ww_iload C 5 rfl (dq dk_Law_law_10 20 rfl) ?_
        refine ww_iconst C (dq dk_Law_law_10 21 rfl) ic_1 ?_
        refine ww_iadd C (dq dk_Law_law_10 22 rfl) ?_
        refine ww_xld C hX (dq dk_Law_law_10 23 rfl) h (fun x134 h => ?_)
        refine ww_cVi (st := []) C (c_Mo_walk v2 ho_v2 x134) cw_Mo_walk ho_v2 (lt_ rfl) rfl g_8_76 hRm ⟨⟨rfl, rfl⟩, le_ rfl, le_ rfl⟩ rfl rfl rfl (le_ rfl) (dq dk_Law_law_10 24 rfl) h (fun x136 σ135 h => ?_)
        refine ww_istore C [(6, .int x136), (5, .int x132), (0, .ref b), (1, .ref (ad k v1)), (2, .ref (ad k v2)), (3, .ref (ad k v3)), (4, .int v4)] hnL (lt_ rfl) rfl (dq dk_Law_law_10 25 rfl) ?_
        refine ww_aload_n C 4 rfl rfl (dq dk_Law_law_10 26 rfl) ?_
        refine ww_cVi (st := []) C (c_Mo_thrown v2 ho_v2) cw_Mo_thrown ho_v2 (lt_ rfl) rfl g_7_1 hRm ⟨⟨rfl, rfl⟩, le_ rfl, le_ rfl⟩ rfl rfl rfl (le_ rfl) (dq dk_Law_law_10 27 rfl) h (fun x138 σ137 h => ?_)
        refine ww_iload C 1 rfl (dq dk_Law_law_10 28 rfl) ?_
        refine ww_icmp_eq C 710 (dq dk_Law_law_10 29 rfl) (by decide) h (fun h => ?_) (fun h => ?_)
        · refine ww_iload C 1 rfl (dq dk_Law_law_10 32 rfl) ?_
          refine ww_if_ne C 727 (dq dk_Law_law_10 33 rfl) (by decide) h (fun h => ?_) (fun h => ?_)
          · refine ww_goto C 951 (dq dk_Law_law_11 3 rfl) (by decide) ?_
            refine ww_iinc C 6 (fun z => [(4, .int z), (6, .int x136), (5, .int x132), (0, .ref b), (1, .ref (ad k v1)), (2, .ref (ad k v2)), (3, .ref (ad k v3))]) rfl ic_7 hnL (lt_ rfl) (fun _ => rfl) (dq dk_Law_law_14 25 rfl) h (fun x139 h => ?_)
            refine ww_goto C 23 (dq dk_Law_law_14 26 rfl) (by decide) ?_
            exact ww_lv [3, 4, 5, 6, 0] rfl (ih (kup k 1 6) C hQ hX hRm hnL hl0 (by show _ ≤ 1130; first | omega | (show _ + 1 + n ≤ 1130; omega)) (by show _ ≤ 34937; first | omega | (show _ + 6 + 6 * n ≤ 34937; omega)) v1 v2 v3 x139 ho_v1 ho_v2 ho_o σ137 h)
          · refine ww_aload_n C 5 rfl rfl (dq dk_Law_law_10 34 rfl) ?_
            refine ww_iconst C (dq dk_Law_law_10 35 rfl) ic_0 ?_
            refine ww_lald C ho_o.1 ho_o.2 (dq dk_Law_law_10 36 rfl) h (fun x140 h => ?_)
            refine ww_iload C 0 rfl (dq dk_Law_law_10 37 rfl) ?_
            refine ww_i2l C (dq dk_Law_law_10 38 rfl) ?_
            refine ww_lcmp C (dq dk_Law_law_10 39 rfl) ?_
            refine ww_if_eq C 727 (dq dk_Law_law_11 0 rfl) (by decide) h (fun h => ?_) (fun h => ?_)
            · refine ww_goto C 951 (dq dk_Law_law_11 3 rfl) (by decide) ?_
              refine ww_iinc C 6 (fun z => [(4, .int z), (6, .int x136), (5, .int x132), (0, .ref b), (1, .ref (ad k v1)), (2, .ref (ad k v2)), (3, .ref (ad k v3))]) rfl ic_7 hnL (lt_ rfl) (fun _ => rfl) (dq dk_Law_law_14 25 rfl) h (fun x141 h => ?_)
              refine ww_goto C 23 (dq dk_Law_law_14 26 rfl) (by decide) ?_
              exact ww_lv [3, 4, 5, 6, 0] rfl (ih (kup k 1 6) C hQ hX hRm hnL hl0 (by show _ ≤ 1130; first | omega | (show _ + 1 + n ≤ 1130; omega)) (by show _ ≤ 34937; first | omega | (show _ + 6 + 6 * n ≤ 34937; omega)) v1 v2 v3 x141 ho_v1 ho_v2 ho_o σ137 h)
            · refine ww_iconst C (dq dk_Law_law_11 1 rfl) ic_0 ?_
              exact ww_lret C hQ hres (by show k.2.2.2.2.2.2.2.2.2.2.2.2.2.1 + 1 ≤ 1130; omega) (by show k.2.2.2.2.2.2.2.2.2.2.2.2.2.2 + 6 ≤ 34937; omega) (dq dk_Law_law_11 2 rfl) h
        · refine ww_iconst C (dq dk_Law_law_10 30 rfl) ic_0 ?_
          exact ww_lret C hQ hres (by show k.2.2.2.2.2.2.2.2.2.2.2.2.2.1 + 1 ≤ 1130; omega) (by show k.2.2.2.2.2.2.2.2.2.2.2.2.2.2 + 6 ≤ 34937; omega) (dq dk_Law_law_10 31 rfl) h
      rw [if_neg e14_14] at h
      by_cases e15_15 : x2 = 15
      · rw [if_pos e15_15] at h
        refine ww_tabIn C 730 (dq dk_Law_law_0 24 rfl) (by rw [e15_15]; decide) (by rw [e15_15]; decide) (by rw [e15_15]; rfl) (by decide) ?_
        refine ww_aload_n C 1 rfl rfl (dq dk_Law_law_11 4 rfl) ?_
        refine ww_aload_n C 0 rfl rfl (dq dk_Law_law_11 5 rfl) ?_
        refine ww_iload C 4 rfl (dq dk_Law_law_11 6 rfl) ?_
        refine ww_iconst C (dq dk_Law_law_11 7 rfl) ic_1 ?_
        refine ww_iadd C (dq dk_Law_law_11 8 rfl) ?_
        refine ww_xld C hX (dq dk_Law_law_11 9 rfl) h (fun x142 h => ?_)
        refine ww_if_eq C 744 (dq dk_Law_law_11 10 rfl) (by decide) h (fun h => ?_) (fun h => ?_)
        · refine ww_iconst C (dq dk_Law_law_11 13 rfl) ic_0 ?_
          refine ww_aload_n C 0 rfl rfl (dq dk_Law_law_11 14 rfl) ?_
          refine ww_iload C 4 rfl (dq dk_Law_law_11 15 rfl) ?_
          refine ww_iconst C (dq dk_Law_law_11 16 rfl) ic_2 ?_
          refine ww_iadd C (dq dk_Law_law_11 17 rfl) ?_
          refine ww_xld C hX (dq dk_Law_law_11 18 rfl) h (fun x143 h => ?_)
          refine ww_aload_n C 3 rfl rfl (dq dk_Law_law_11 19 rfl) ?_
          refine ww_hcall (st := []) C (c_Law_state v1 0 x143 v3 ho_v1 ho_o) hl0 cw_Law_state g_6_15 hRm ⟨⟨rfl, rfl⟩, le_ rfl, le_ rfl⟩ ⟨by show _ ≤ 1130; omega, by show _ ≤ 34937; omega⟩ rfl rfl rfl (le_ rfl) (dq dk_Law_law_11 20 rfl) h (fun x144 σ145 h => ?_)
          have C := cx_up C (n := 1) (r := 6) (by rw [hRm]; exact ⟨by show _ ≤ 1130; omega, by show _ ≤ 34937; omega⟩)
          refine ww_istore C [(5, .int x144), (0, .ref b), (1, .ref (ad k v1)), (2, .ref (ad k v2)), (3, .ref (ad k v3)), (4, .int v4)] hnL (lt_ rfl) rfl (dq dk_Law_law_11 21 rfl) ?_
          refine ww_aload_n C 3 rfl rfl (dq dk_Law_law_11 22 rfl) ?_
          refine ww_aload_n C 1 rfl rfl (dq dk_Law_law_11 23 rfl) ?_
          refine ww_iload C 5 rfl (dq dk_Law_law_11 24 rfl) ?_
          refine ww_iconst C (dq dk_Law_law_11 25 rfl) ic_1 ?_
          refine ww_iadd C (dq dk_Law_law_11 26 rfl) ?_
          refine ww_xld C hX (dq dk_Law_law_11 27 rfl) h (fun x146 h => ?_)
          refine ww_if_eq C 771 (dq dk_Law_law_11 28 rfl) (by decide) h (fun h => ?_) (fun h => ?_)
          · refine ww_iconst C (dq dk_Law_law_11 31 rfl) ic_0 ?_
            refine ww_aload_n C 1 rfl rfl (dq dk_Law_law_11 32 rfl) ?_
            refine ww_iload C 5 rfl (dq dk_Law_law_11 33 rfl) ?_
            refine ww_iconst C (dq dk_Law_law_11 34 rfl) ic_2 ?_
            refine ww_iadd C (dq dk_Law_law_11 35 rfl) ?_
            refine ww_xld C hX (dq dk_Law_law_11 36 rfl) h (fun x147 h => ?_)
            refine ww_cVi (st := []) C (c_Mo_state v2 ho_v2 0 x147) cw_Mo_state ho_v2 (lt_ rfl) rfl g_8_120 hRm ⟨⟨rfl, rfl⟩, le_ rfl, le_ rfl⟩ rfl rfl rfl (le_ rfl) (dq dk_Law_law_11 37 rfl) h (fun x149 σ148 h => ?_)
            refine ww_istore C [(6, .int x149), (5, .int x144), (0, .ref b), (1, .ref (ad k v1)), (2, .ref (ad k v2)), (3, .ref (ad k v3)), (4, .int v4)] hnL (lt_ rfl) rfl (dq dk_Law_law_11 38 rfl) ?_
            refine ww_aload_n C 4 rfl rfl (dq dk_Law_law_11 39 rfl) ?_
            refine ww_cVi (st := []) C (c_Mo_thrown v2 ho_v2) cw_Mo_thrown ho_v2 (lt_ rfl) rfl g_7_1 hRm ⟨⟨rfl, rfl⟩, le_ rfl, le_ rfl⟩ rfl rfl rfl (le_ rfl) (dq dk_Law_law_12 0 rfl) h (fun x151 σ150 h => ?_)
            refine ww_iload C 1 rfl (dq dk_Law_law_12 1 rfl) ?_
            refine ww_icmp_eq C 794 (dq dk_Law_law_12 2 rfl) (by decide) h (fun h => ?_) (fun h => ?_)
            · refine ww_iload C 1 rfl (dq dk_Law_law_12 5 rfl) ?_
              refine ww_if_ne C 811 (dq dk_Law_law_12 6 rfl) (by decide) h (fun h => ?_) (fun h => ?_)
              · refine ww_goto C 951 (dq dk_Law_law_12 16 rfl) (by decide) ?_
                refine ww_iinc C 6 (fun z => [(4, .int z), (6, .int x149), (5, .int x144), (0, .ref b), (1, .ref (ad k v1)), (2, .ref (ad k v2)), (3, .ref (ad k v3))]) rfl ic_7 hnL (lt_ rfl) (fun _ => rfl) (dq dk_Law_law_14 25 rfl) h (fun x152 h => ?_)
                refine ww_goto C 23 (dq dk_Law_law_14 26 rfl) (by decide) ?_
                exact ww_lv [3, 4, 5, 6, 0] rfl (ih (kup k 1 6) C hQ hX hRm hnL hl0 (by show _ ≤ 1130; first | omega | (show _ + 1 + n ≤ 1130; omega)) (by show _ ≤ 34937; first | omega | (show _ + 6 + 6 * n ≤ 34937; omega)) v1 v2 v3 x152 ho_v1 ho_v2 ho_o σ150 h)
              · refine ww_aload_n C 5 rfl rfl (dq dk_Law_law_12 7 rfl) ?_
                refine ww_iconst C (dq dk_Law_law_12 8 rfl) ic_0 ?_
                refine ww_lald C ho_o.1 ho_o.2 (dq dk_Law_law_12 9 rfl) h (fun x153 h => ?_)
                refine ww_iload C 0 rfl (dq dk_Law_law_12 10 rfl) ?_
                refine ww_i2l C (dq dk_Law_law_12 11 rfl) ?_
                refine ww_lcmp C (dq dk_Law_law_12 12 rfl) ?_
                refine ww_if_eq C 811 (dq dk_Law_law_12 13 rfl) (by decide) h (fun h => ?_) (fun h => ?_)
                · refine ww_goto C 951 (dq dk_Law_law_12 16 rfl) (by decide) ?_
                  refine ww_iinc C 6 (fun z => [(4, .int z), (6, .int x149), (5, .int x144), (0, .ref b), (1, .ref (ad k v1)), (2, .ref (ad k v2)), (3, .ref (ad k v3))]) rfl ic_7 hnL (lt_ rfl) (fun _ => rfl) (dq dk_Law_law_14 25 rfl) h (fun x154 h => ?_)
                  refine ww_goto C 23 (dq dk_Law_law_14 26 rfl) (by decide) ?_
                  exact ww_lv [3, 4, 5, 6, 0] rfl (ih (kup k 1 6) C hQ hX hRm hnL hl0 (by show _ ≤ 1130; first | omega | (show _ + 1 + n ≤ 1130; omega)) (by show _ ≤ 34937; first | omega | (show _ + 6 + 6 * n ≤ 34937; omega)) v1 v2 v3 x154 ho_v1 ho_v2 ho_o σ150 h)
                · refine ww_iconst C (dq dk_Law_law_12 14 rfl) ic_0 ?_
                  exact ww_lret C hQ hres (by show k.2.2.2.2.2.2.2.2.2.2.2.2.2.1 + 1 ≤ 1130; omega) (by show k.2.2.2.2.2.2.2.2.2.2.2.2.2.2 + 6 ≤ 34937; omega) (dq dk_Law_law_12 15 rfl) h
            · refine ww_iconst C (dq dk_Law_law_12 3 rfl) ic_0 ?_
              exact ww_lret C hQ hres (by show k.2.2.2.2.2.2.2.2.2.2.2.2.2.1 + 1 ≤ 1130; omega) (by show k.2.2.2.2.2.2.2.2.2.2.2.2.2.2 + 6 ≤ 34937; omega) (dq dk_Law_law_12 4 rfl) h
          · refine ww_iconst C (dq dk_Law_law_11 29 rfl) ic_1 ?_
            refine ww_goto C 772 (dq dk_Law_law_11 30 rfl) (by decide) ?_
            refine ww_aload_n C 1 rfl rfl (dq dk_Law_law_11 32 rfl) ?_
            refine ww_iload C 5 rfl (dq dk_Law_law_11 33 rfl) ?_
            refine ww_iconst C (dq dk_Law_law_11 34 rfl) ic_2 ?_
            refine ww_iadd C (dq dk_Law_law_11 35 rfl) ?_
            refine ww_xld C hX (dq dk_Law_law_11 36 rfl) h (fun x155 h => ?_)
            refine ww_cVi (st := []) C (c_Mo_state v2 ho_v2 1 x155) cw_Mo_state ho_v2 (lt_ rfl) rfl g_8_120 hRm ⟨⟨rfl, rfl⟩, le_ rfl, le_ rfl⟩ rfl rfl rfl (le_ rfl) (dq dk_Law_law_11 37 rfl) h (fun x157 σ156 h => ?_)
            refine ww_istore C [(6, .int x157), (5, .int x144), (0, .ref b), (1, .ref (ad k v1)), (2, .ref (ad k v2)), (3, .ref (ad k v3)), (4, .int v4)] hnL (lt_ rfl) rfl (dq dk_Law_law_11 38 rfl) ?_
            refine ww_aload_n C 4 rfl rfl (dq dk_Law_law_11 39 rfl) ?_
            refine ww_cVi (st := []) C (c_Mo_thrown v2 ho_v2) cw_Mo_thrown ho_v2 (lt_ rfl) rfl g_7_1 hRm ⟨⟨rfl, rfl⟩, le_ rfl, le_ rfl⟩ rfl rfl rfl (le_ rfl) (dq dk_Law_law_12 0 rfl) h (fun x159 σ158 h => ?_)
            refine ww_iload C 1 rfl (dq dk_Law_law_12 1 rfl) ?_
            refine ww_icmp_eq C 794 (dq dk_Law_law_12 2 rfl) (by decide) h (fun h => ?_) (fun h => ?_)
            · refine ww_iload C 1 rfl (dq dk_Law_law_12 5 rfl) ?_
              refine ww_if_ne C 811 (dq dk_Law_law_12 6 rfl) (by decide) h (fun h => ?_) (fun h => ?_)
              · refine ww_goto C 951 (dq dk_Law_law_12 16 rfl) (by decide) ?_
                refine ww_iinc C 6 (fun z => [(4, .int z), (6, .int x157), (5, .int x144), (0, .ref b), (1, .ref (ad k v1)), (2, .ref (ad k v2)), (3, .ref (ad k v3))]) rfl ic_7 hnL (lt_ rfl) (fun _ => rfl) (dq dk_Law_law_14 25 rfl) h (fun x160 h => ?_)
                refine ww_goto C 23 (dq dk_Law_law_14 26 rfl) (by decide) ?_
                exact ww_lv [3, 4, 5, 6, 0] rfl (ih (kup k 1 6) C hQ hX hRm hnL hl0 (by show _ ≤ 1130; first | omega | (show _ + 1 + n ≤ 1130; omega)) (by show _ ≤ 34937; first | omega | (show _ + 6 + 6 * n ≤ 34937; omega)) v1 v2 v3 x160 ho_v1 ho_v2 ho_o σ158 h)
              · refine ww_aload_n C 5 rfl rfl (dq dk_Law_law_12 7 rfl) ?_
                refine ww_iconst C (dq dk_Law_law_12 8 rfl) ic_0 ?_
                refine ww_lald C ho_o.1 ho_o.2 (dq dk_Law_law_12 9 rfl) h (fun x161 h => ?_)
                refine ww_iload C 0 rfl (dq dk_Law_law_12 10 rfl) ?_
                refine ww_i2l C (dq dk_Law_law_12 11 rfl) ?_
                refine ww_lcmp C (dq dk_Law_law_12 12 rfl) ?_
                refine ww_if_eq C 811 (dq dk_Law_law_12 13 rfl) (by decide) h (fun h => ?_) (fun h => ?_)
                · refine ww_goto C 951 (dq dk_Law_law_12 16 rfl) (by decide) ?_
                  refine ww_iinc C 6 (fun z => [(4, .int z), (6, .int x157), (5, .int x144), (0, .ref b), (1, .ref (ad k v1)), (2, .ref (ad k v2)), (3, .ref (ad k v3))]) rfl ic_7 hnL (lt_ rfl) (fun _ => rfl) (dq dk_Law_law_14 25 rfl) h (fun x162 h => ?_)
                  refine ww_goto C 23 (dq dk_Law_law_14 26 rfl) (by decide) ?_
                  exact ww_lv [3, 4, 5, 6, 0] rfl (ih (kup k 1 6) C hQ hX hRm hnL hl0 (by show _ ≤ 1130; first | omega | (show _ + 1 + n ≤ 1130; omega)) (by show _ ≤ 34937; first | omega | (show _ + 6 + 6 * n ≤ 34937; omega)) v1 v2 v3 x162 ho_v1 ho_v2 ho_o σ158 h)
                · refine ww_iconst C (dq dk_Law_law_12 14 rfl) ic_0 ?_
                  exact ww_lret C hQ hres (by show k.2.2.2.2.2.2.2.2.2.2.2.2.2.1 + 1 ≤ 1130; omega) (by show k.2.2.2.2.2.2.2.2.2.2.2.2.2.2 + 6 ≤ 34937; omega) (dq dk_Law_law_12 15 rfl) h
            · refine ww_iconst C (dq dk_Law_law_12 3 rfl) ic_0 ?_
              exact ww_lret C hQ hres (by show k.2.2.2.2.2.2.2.2.2.2.2.2.2.1 + 1 ≤ 1130; omega) (by show k.2.2.2.2.2.2.2.2.2.2.2.2.2.2 + 6 ≤ 34937; omega) (dq dk_Law_law_12 4 rfl) h
        · refine ww_iconst C (dq dk_Law_law_11 11 rfl) ic_1 ?_
          refine ww_goto C 745 (dq dk_Law_law_11 12 rfl) (by decide) ?_
          refine ww_aload_n C 0 rfl rfl (dq dk_Law_law_11 14 rfl) ?_
          refine ww_iload C 4 rfl (dq dk_Law_law_11 15 rfl) ?_
          refine ww_iconst C (dq dk_Law_law_11 16 rfl) ic_2 ?_
          refine ww_iadd C (dq dk_Law_law_11 17 rfl) ?_
          refine ww_xld C hX (dq dk_Law_law_11 18 rfl) h (fun x163 h => ?_)
          refine ww_aload_n C 3 rfl rfl (dq dk_Law_law_11 19 rfl) ?_
          refine ww_hcall (st := []) C (c_Law_state v1 1 x163 v3 ho_v1 ho_o) hl0 cw_Law_state g_6_15 hRm ⟨⟨rfl, rfl⟩, le_ rfl, le_ rfl⟩ ⟨by show _ ≤ 1130; omega, by show _ ≤ 34937; omega⟩ rfl rfl rfl (le_ rfl) (dq dk_Law_law_11 20 rfl) h (fun x164 σ165 h => ?_)
          have C := cx_up C (n := 1) (r := 6) (by rw [hRm]; exact ⟨by show _ ≤ 1130; omega, by show _ ≤ 34937; omega⟩)
          refine ww_istore C [(5, .int x164), (0, .ref b), (1, .ref (ad k v1)), (2, .ref (ad k v2)), (3, .ref (ad k v3)), (4, .int v4)] hnL (lt_ rfl) rfl (dq dk_Law_law_11 21 rfl) ?_
          refine ww_aload_n C 3 rfl rfl (dq dk_Law_law_11 22 rfl) ?_
          refine ww_aload_n C 1 rfl rfl (dq dk_Law_law_11 23 rfl) ?_
          refine ww_iload C 5 rfl (dq dk_Law_law_11 24 rfl) ?_
          refine ww_iconst C (dq dk_Law_law_11 25 rfl) ic_1 ?_
          refine ww_iadd C (dq dk_Law_law_11 26 rfl) ?_
          refine ww_xld C hX (dq dk_Law_law_11 27 rfl) h (fun x166 h => ?_)
          refine ww_if_eq C 771 (dq dk_Law_law_11 28 rfl) (by decide) h (fun h => ?_) (fun h => ?_)
          · refine ww_iconst C (dq dk_Law_law_11 31 rfl) ic_0 ?_
            refine ww_aload_n C 1 rfl rfl (dq dk_Law_law_11 32 rfl) ?_
            refine ww_iload C 5 rfl (dq dk_Law_law_11 33 rfl) ?_
            refine ww_iconst C (dq dk_Law_law_11 34 rfl) ic_2 ?_
            refine ww_iadd C (dq dk_Law_law_11 35 rfl) ?_
            refine ww_xld C hX (dq dk_Law_law_11 36 rfl) h (fun x167 h => ?_)
            refine ww_cVi (st := []) C (c_Mo_state v2 ho_v2 0 x167) cw_Mo_state ho_v2 (lt_ rfl) rfl g_8_120 hRm ⟨⟨rfl, rfl⟩, le_ rfl, le_ rfl⟩ rfl rfl rfl (le_ rfl) (dq dk_Law_law_11 37 rfl) h (fun x169 σ168 h => ?_)
            refine ww_istore C [(6, .int x169), (5, .int x164), (0, .ref b), (1, .ref (ad k v1)), (2, .ref (ad k v2)), (3, .ref (ad k v3)), (4, .int v4)] hnL (lt_ rfl) rfl (dq dk_Law_law_11 38 rfl) ?_
            refine ww_aload_n C 4 rfl rfl (dq dk_Law_law_11 39 rfl) ?_
            refine ww_cVi (st := []) C (c_Mo_thrown v2 ho_v2) cw_Mo_thrown ho_v2 (lt_ rfl) rfl g_7_1 hRm ⟨⟨rfl, rfl⟩, le_ rfl, le_ rfl⟩ rfl rfl rfl (le_ rfl) (dq dk_Law_law_12 0 rfl) h (fun x171 σ170 h => ?_)
            refine ww_iload C 1 rfl (dq dk_Law_law_12 1 rfl) ?_
            refine ww_icmp_eq C 794 (dq dk_Law_law_12 2 rfl) (by decide) h (fun h => ?_) (fun h => ?_)
            · refine ww_iload C 1 rfl (dq dk_Law_law_12 5 rfl) ?_
              refine ww_if_ne C 811 (dq dk_Law_law_12 6 rfl) (by decide) h (fun h => ?_) (fun h => ?_)
              · refine ww_goto C 951 (dq dk_Law_law_12 16 rfl) (by decide) ?_
                refine ww_iinc C 6 (fun z => [(4, .int z), (6, .int x169), (5, .int x164), (0, .ref b), (1, .ref (ad k v1)), (2, .ref (ad k v2)), (3, .ref (ad k v3))]) rfl ic_7 hnL (lt_ rfl) (fun _ => rfl) (dq dk_Law_law_14 25 rfl) h (fun x172 h => ?_)
                refine ww_goto C 23 (dq dk_Law_law_14 26 rfl) (by decide) ?_
                exact ww_lv [3, 4, 5, 6, 0] rfl (ih (kup k 1 6) C hQ hX hRm hnL hl0 (by show _ ≤ 1130; first | omega | (show _ + 1 + n ≤ 1130; omega)) (by show _ ≤ 34937; first | omega | (show _ + 6 + 6 * n ≤ 34937; omega)) v1 v2 v3 x172 ho_v1 ho_v2 ho_o σ170 h)
              · refine ww_aload_n C 5 rfl rfl (dq dk_Law_law_12 7 rfl) ?_
                refine ww_iconst C (dq dk_Law_law_12 8 rfl) ic_0 ?_
                refine ww_lald C ho_o.1 ho_o.2 (dq dk_Law_law_12 9 rfl) h (fun x173 h => ?_)
                refine ww_iload C 0 rfl (dq dk_Law_law_12 10 rfl) ?_
                refine ww_i2l C (dq dk_Law_law_12 11 rfl) ?_
                refine ww_lcmp C (dq dk_Law_law_12 12 rfl) ?_
                refine ww_if_eq C 811 (dq dk_Law_law_12 13 rfl) (by decide) h (fun h => ?_) (fun h => ?_)
                · refine ww_goto C 951 (dq dk_Law_law_12 16 rfl) (by decide) ?_
                  refine ww_iinc C 6 (fun z => [(4, .int z), (6, .int x169), (5, .int x164), (0, .ref b), (1, .ref (ad k v1)), (2, .ref (ad k v2)), (3, .ref (ad k v3))]) rfl ic_7 hnL (lt_ rfl) (fun _ => rfl) (dq dk_Law_law_14 25 rfl) h (fun x174 h => ?_)
                  refine ww_goto C 23 (dq dk_Law_law_14 26 rfl) (by decide) ?_
                  exact ww_lv [3, 4, 5, 6, 0] rfl (ih (kup k 1 6) C hQ hX hRm hnL hl0 (by show _ ≤ 1130; first | omega | (show _ + 1 + n ≤ 1130; omega)) (by show _ ≤ 34937; first | omega | (show _ + 6 + 6 * n ≤ 34937; omega)) v1 v2 v3 x174 ho_v1 ho_v2 ho_o σ170 h)
                · refine ww_iconst C (dq dk_Law_law_12 14 rfl) ic_0 ?_
                  exact ww_lret C hQ hres (by show k.2.2.2.2.2.2.2.2.2.2.2.2.2.1 + 1 ≤ 1130; omega) (by show k.2.2.2.2.2.2.2.2.2.2.2.2.2.2 + 6 ≤ 34937; omega) (dq dk_Law_law_12 15 rfl) h
            · refine ww_iconst C (dq dk_Law_law_12 3 rfl) ic_0 ?_
              exact ww_lret C hQ hres (by show k.2.2.2.2.2.2.2.2.2.2.2.2.2.1 + 1 ≤ 1130; omega) (by show k.2.2.2.2.2.2.2.2.2.2.2.2.2.2 + 6 ≤ 34937; omega) (dq dk_Law_law_12 4 rfl) h
          · refine ww_iconst C (dq dk_Law_law_11 29 rfl) ic_1 ?_
            refine ww_goto C 772 (dq dk_Law_law_11 30 rfl) (by decide) ?_
            refine ww_aload_n C 1 rfl rfl (dq dk_Law_law_11 32 rfl) ?_
            refine ww_iload C 5 rfl (dq dk_Law_law_11 33 rfl) ?_
            refine ww_iconst C (dq dk_Law_law_11 34 rfl) ic_2 ?_
            refine ww_iadd C (dq dk_Law_law_11 35 rfl) ?_
            refine ww_xld C hX (dq dk_Law_law_11 36 rfl) h (fun x175 h => ?_)
            refine ww_cVi (st := []) C (c_Mo_state v2 ho_v2 1 x175) cw_Mo_state ho_v2 (lt_ rfl) rfl g_8_120 hRm ⟨⟨rfl, rfl⟩, le_ rfl, le_ rfl⟩ rfl rfl rfl (le_ rfl) (dq dk_Law_law_11 37 rfl) h (fun x177 σ176 h => ?_)
            refine ww_istore C [(6, .int x177), (5, .int x164), (0, .ref b), (1, .ref (ad k v1)), (2, .ref (ad k v2)), (3, .ref (ad k v3)), (4, .int v4)] hnL (lt_ rfl) rfl (dq dk_Law_law_11 38 rfl) ?_
            refine ww_aload_n C 4 rfl rfl (dq dk_Law_law_11 39 rfl) ?_
            refine ww_cVi (st := []) C (c_Mo_thrown v2 ho_v2) cw_Mo_thrown ho_v2 (lt_ rfl) rfl g_7_1 hRm ⟨⟨rfl, rfl⟩, le_ rfl, le_ rfl⟩ rfl rfl rfl (le_ rfl) (dq dk_Law_law_12 0 rfl) h (fun x179 σ178 h => ?_)
            refine ww_iload C 1 rfl (dq dk_Law_law_12 1 rfl) ?_
            refine ww_icmp_eq C 794 (dq dk_Law_law_12 2 rfl) (by decide) h (fun h => ?_) (fun h => ?_)
            · refine ww_iload C 1 rfl (dq dk_Law_law_12 5 rfl) ?_
              refine ww_if_ne C 811 (dq dk_Law_law_12 6 rfl) (by decide) h (fun h => ?_) (fun h => ?_)
              · refine ww_goto C 951 (dq dk_Law_law_12 16 rfl) (by decide) ?_
                refine ww_iinc C 6 (fun z => [(4, .int z), (6, .int x177), (5, .int x164), (0, .ref b), (1, .ref (ad k v1)), (2, .ref (ad k v2)), (3, .ref (ad k v3))]) rfl ic_7 hnL (lt_ rfl) (fun _ => rfl) (dq dk_Law_law_14 25 rfl) h (fun x180 h => ?_)
                refine ww_goto C 23 (dq dk_Law_law_14 26 rfl) (by decide) ?_
                exact ww_lv [3, 4, 5, 6, 0] rfl (ih (kup k 1 6) C hQ hX hRm hnL hl0 (by show _ ≤ 1130; first | omega | (show _ + 1 + n ≤ 1130; omega)) (by show _ ≤ 34937; first | omega | (show _ + 6 + 6 * n ≤ 34937; omega)) v1 v2 v3 x180 ho_v1 ho_v2 ho_o σ178 h)
              · refine ww_aload_n C 5 rfl rfl (dq dk_Law_law_12 7 rfl) ?_
                refine ww_iconst C (dq dk_Law_law_12 8 rfl) ic_0 ?_
                refine ww_lald C ho_o.1 ho_o.2 (dq dk_Law_law_12 9 rfl) h (fun x181 h => ?_)
                refine ww_iload C 0 rfl (dq dk_Law_law_12 10 rfl) ?_
                refine ww_i2l C (dq dk_Law_law_12 11 rfl) ?_
                refine ww_lcmp C (dq dk_Law_law_12 12 rfl) ?_
                refine ww_if_eq C 811 (dq dk_Law_law_12 13 rfl) (by decide) h (fun h => ?_) (fun h => ?_)
                · refine ww_goto C 951 (dq dk_Law_law_12 16 rfl) (by decide) ?_
                  refine ww_iinc C 6 (fun z => [(4, .int z), (6, .int x177), (5, .int x164), (0, .ref b), (1, .ref (ad k v1)), (2, .ref (ad k v2)), (3, .ref (ad k v3))]) rfl ic_7 hnL (lt_ rfl) (fun _ => rfl) (dq dk_Law_law_14 25 rfl) h (fun x182 h => ?_)
                  refine ww_goto C 23 (dq dk_Law_law_14 26 rfl) (by decide) ?_
                  exact ww_lv [3, 4, 5, 6, 0] rfl (ih (kup k 1 6) C hQ hX hRm hnL hl0 (by show _ ≤ 1130; first | omega | (show _ + 1 + n ≤ 1130; omega)) (by show _ ≤ 34937; first | omega | (show _ + 6 + 6 * n ≤ 34937; omega)) v1 v2 v3 x182 ho_v1 ho_v2 ho_o σ178 h)
                · refine ww_iconst C (dq dk_Law_law_12 14 rfl) ic_0 ?_
                  exact ww_lret C hQ hres (by show k.2.2.2.2.2.2.2.2.2.2.2.2.2.1 + 1 ≤ 1130; omega) (by show k.2.2.2.2.2.2.2.2.2.2.2.2.2.2 + 6 ≤ 34937; omega) (dq dk_Law_law_12 15 rfl) h
            · refine ww_iconst C (dq dk_Law_law_12 3 rfl) ic_0 ?_
              exact ww_lret C hQ hres (by show k.2.2.2.2.2.2.2.2.2.2.2.2.2.1 + 1 ≤ 1130; omega) (by show k.2.2.2.2.2.2.2.2.2.2.2.2.2.2 + 6 ≤ 34937; omega) (dq dk_Law_law_12 4 rfl) h
      rw [if_neg e15_15] at h
      by_cases e16_16 : x2 = 16
      · rw [if_pos e16_16] at h
        refine ww_tabIn C 814 (dq dk_Law_law_0 24 rfl) (by rw [e16_16]; decide) (by rw [e16_16]; decide) (by rw [e16_16]; rfl) (by decide) ?_
        refine ww_aload_n C 1 rfl rfl (dq dk_Law_law_12 17 rfl) ?_
        refine ww_aload_n C 0 rfl rfl (dq dk_Law_law_12 18 rfl) ?_
        refine ww_iload C 4 rfl (dq dk_Law_law_12 19 rfl) ?_
        refine ww_iconst C (dq dk_Law_law_12 20 rfl) ic_1 ?_
        refine ww_iadd C (dq dk_Law_law_12 21 rfl) ?_
        refine ww_xld C hX (dq dk_Law_law_12 22 rfl) h (fun x183 h => ?_)
        refine ww_if_eq C 828 (dq dk_Law_law_12 23 rfl) (by decide) h (fun h => ?_) (fun h => ?_)
        · refine ww_iconst C (dq dk_Law_law_12 26 rfl) ic_0 ?_
          refine ww_aload_n C 0 rfl rfl (dq dk_Law_law_12 27 rfl) ?_
          refine ww_iload C 4 rfl (dq dk_Law_law_12 28 rfl) ?_
          refine ww_iconst C (dq dk_Law_law_12 29 rfl) ic_2 ?_
          refine ww_iadd C (dq dk_Law_law_12 30 rfl) ?_
          refine ww_xld C hX (dq dk_Law_law_12 31 rfl) h (fun x184 h => ?_)
          refine ww_cVi (st := []) C (c_House_data v1 ho_v1 0 x184) cw_House_data ho_v1 (lt_ rfl) rfl g_4_147 hRm ⟨⟨rfl, rfl⟩, le_ rfl, le_ rfl⟩ rfl rfl rfl (le_ rfl) (dq dk_Law_law_12 32 rfl) h (fun x186 σ185 h => ?_)
          refine ww_aload_n C 2 rfl rfl (dq dk_Law_law_12 33 rfl) ?_
          refine ww_aload_n C 0 rfl rfl (dq dk_Law_law_12 34 rfl) ?_
          refine ww_iload C 4 rfl (dq dk_Law_law_12 35 rfl) ?_
          refine ww_iconst C (dq dk_Law_law_12 36 rfl) ic_1 ?_
          refine ww_iadd C (dq dk_Law_law_12 37 rfl) ?_
          refine ww_xld C hX (dq dk_Law_law_12 38 rfl) h (fun x187 h => ?_)
          refine ww_if_eq C 852 (dq dk_Law_law_12 39 rfl) (by decide) h (fun h => ?_) (fun h => ?_)
          · refine ww_iconst C (dq dk_Law_law_13 2 rfl) ic_0 ?_
            refine ww_aload_n C 0 rfl rfl (dq dk_Law_law_13 3 rfl) ?_
            refine ww_iload C 4 rfl (dq dk_Law_law_13 4 rfl) ?_
            refine ww_iconst C (dq dk_Law_law_13 5 rfl) ic_2 ?_
            refine ww_iadd C (dq dk_Law_law_13 6 rfl) ?_
            refine ww_xld C hX (dq dk_Law_law_13 7 rfl) h (fun x188 h => ?_)
            refine ww_cVi (st := [.int x186]) C (c_Mo_data v2 ho_v2 0 x188) cw_Mo_data ho_v2 (lt_ rfl) rfl g_8_124 hRm ⟨⟨rfl, rfl⟩, le_ rfl, le_ rfl⟩ rfl rfl rfl (le_ rfl) (dq dk_Law_law_13 8 rfl) h (fun x190 σ189 h => ?_)
            refine ww_icmp_eq C 951 (dq dk_Law_law_13 9 rfl) (by decide) h (fun h => ?_) (fun h => ?_)
            · refine ww_iinc C 4 (fun z => [(4, .int z), (0, .ref b), (1, .ref (ad k v1)), (2, .ref (ad k v2)), (3, .ref (ad k v3))]) rfl ic_7 hnL (lt_ rfl) (fun _ => rfl) (dq dk_Law_law_14 25 rfl) h (fun x191 h => ?_)
              refine ww_goto C 23 (dq dk_Law_law_14 26 rfl) (by decide) ?_
              exact ww_lv [1, 2, 3, 4, 0] rfl (ih k C hQ hX hRm hnL hl0 (by show _ ≤ 1130; first | omega | (show _ + 1 + n ≤ 1130; omega)) (by show _ ≤ 34937; first | omega | (show _ + 6 + 6 * n ≤ 34937; omega)) v1 v2 v3 x191 ho_v1 ho_v2 ho_o σ189 h)
            · refine ww_iconst C (dq dk_Law_law_13 10 rfl) ic_0 ?_
              exact ww_lret C hQ hres (by show k.2.2.2.2.2.2.2.2.2.2.2.2.2.1 ≤ 1130; omega) (by show k.2.2.2.2.2.2.2.2.2.2.2.2.2.2 ≤ 34937; omega) (dq dk_Law_law_13 11 rfl) h
          · refine ww_iconst C (dq dk_Law_law_13 0 rfl) ic_1 ?_
            refine ww_goto C 853 (dq dk_Law_law_13 1 rfl) (by decide) ?_
            refine ww_aload_n C 0 rfl rfl (dq dk_Law_law_13 3 rfl) ?_
            refine ww_iload C 4 rfl (dq dk_Law_law_13 4 rfl) ?_
            refine ww_iconst C (dq dk_Law_law_13 5 rfl) ic_2 ?_
            refine ww_iadd C (dq dk_Law_law_13 6 rfl) ?_
            refine ww_xld C hX (dq dk_Law_law_13 7 rfl) h (fun x192 h => ?_)
            refine ww_cVi (st := [.int x186]) C (c_Mo_data v2 ho_v2 1 x192) cw_Mo_data ho_v2 (lt_ rfl) rfl g_8_124 hRm ⟨⟨rfl, rfl⟩, le_ rfl, le_ rfl⟩ rfl rfl rfl (le_ rfl) (dq dk_Law_law_13 8 rfl) h (fun x194 σ193 h => ?_)
            refine ww_icmp_eq C 951 (dq dk_Law_law_13 9 rfl) (by decide) h (fun h => ?_) (fun h => ?_)
            · refine ww_iinc C 4 (fun z => [(4, .int z), (0, .ref b), (1, .ref (ad k v1)), (2, .ref (ad k v2)), (3, .ref (ad k v3))]) rfl ic_7 hnL (lt_ rfl) (fun _ => rfl) (dq dk_Law_law_14 25 rfl) h (fun x195 h => ?_)
              refine ww_goto C 23 (dq dk_Law_law_14 26 rfl) (by decide) ?_
              exact ww_lv [1, 2, 3, 4, 0] rfl (ih k C hQ hX hRm hnL hl0 (by show _ ≤ 1130; first | omega | (show _ + 1 + n ≤ 1130; omega)) (by show _ ≤ 34937; first | omega | (show _ + 6 + 6 * n ≤ 34937; omega)) v1 v2 v3 x195 ho_v1 ho_v2 ho_o σ193 h)
            · refine ww_iconst C (dq dk_Law_law_13 10 rfl) ic_0 ?_
              exact ww_lret C hQ hres (by show k.2.2.2.2.2.2.2.2.2.2.2.2.2.1 ≤ 1130; omega) (by show k.2.2.2.2.2.2.2.2.2.2.2.2.2.2 ≤ 34937; omega) (dq dk_Law_law_13 11 rfl) h
        · refine ww_iconst C (dq dk_Law_law_12 24 rfl) ic_1 ?_
          refine ww_goto C 829 (dq dk_Law_law_12 25 rfl) (by decide) ?_
          refine ww_aload_n C 0 rfl rfl (dq dk_Law_law_12 27 rfl) ?_
          refine ww_iload C 4 rfl (dq dk_Law_law_12 28 rfl) ?_
          refine ww_iconst C (dq dk_Law_law_12 29 rfl) ic_2 ?_
          refine ww_iadd C (dq dk_Law_law_12 30 rfl) ?_
          refine ww_xld C hX (dq dk_Law_law_12 31 rfl) h (fun x196 h => ?_)
          refine ww_cVi (st := []) C (c_House_data v1 ho_v1 1 x196) cw_House_data ho_v1 (lt_ rfl) rfl g_4_147 hRm ⟨⟨rfl, rfl⟩, le_ rfl, le_ rfl⟩ rfl rfl rfl (le_ rfl) (dq dk_Law_law_12 32 rfl) h (fun x198 σ197 h => ?_)
          refine ww_aload_n C 2 rfl rfl (dq dk_Law_law_12 33 rfl) ?_
          refine ww_aload_n C 0 rfl rfl (dq dk_Law_law_12 34 rfl) ?_
          refine ww_iload C 4 rfl (dq dk_Law_law_12 35 rfl) ?_
          refine ww_iconst C (dq dk_Law_law_12 36 rfl) ic_1 ?_
          refine ww_iadd C (dq dk_Law_law_12 37 rfl) ?_
          refine ww_xld C hX (dq dk_Law_law_12 38 rfl) h (fun x199 h => ?_)
          refine ww_if_eq C 852 (dq dk_Law_law_12 39 rfl) (by decide) h (fun h => ?_) (fun h => ?_)
          · refine ww_iconst C (dq dk_Law_law_13 2 rfl) ic_0 ?_
            refine ww_aload_n C 0 rfl rfl (dq dk_Law_law_13 3 rfl) ?_
            refine ww_iload C 4 rfl (dq dk_Law_law_13 4 rfl) ?_
            refine ww_iconst C (dq dk_Law_law_13 5 rfl) ic_2 ?_
            refine ww_iadd C (dq dk_Law_law_13 6 rfl) ?_
            refine ww_xld C hX (dq dk_Law_law_13 7 rfl) h (fun x200 h => ?_)
            refine ww_cVi (st := [.int x198]) C (c_Mo_data v2 ho_v2 0 x200) cw_Mo_data ho_v2 (lt_ rfl) rfl g_8_124 hRm ⟨⟨rfl, rfl⟩, le_ rfl, le_ rfl⟩ rfl rfl rfl (le_ rfl) (dq dk_Law_law_13 8 rfl) h (fun x202 σ201 h => ?_)
            refine ww_icmp_eq C 951 (dq dk_Law_law_13 9 rfl) (by decide) h (fun h => ?_) (fun h => ?_)
            · refine ww_iinc C 4 (fun z => [(4, .int z), (0, .ref b), (1, .ref (ad k v1)), (2, .ref (ad k v2)), (3, .ref (ad k v3))]) rfl ic_7 hnL (lt_ rfl) (fun _ => rfl) (dq dk_Law_law_14 25 rfl) h (fun x203 h => ?_)
              refine ww_goto C 23 (dq dk_Law_law_14 26 rfl) (by decide) ?_
              exact ww_lv [1, 2, 3, 4, 0] rfl (ih k C hQ hX hRm hnL hl0 (by show _ ≤ 1130; first | omega | (show _ + 1 + n ≤ 1130; omega)) (by show _ ≤ 34937; first | omega | (show _ + 6 + 6 * n ≤ 34937; omega)) v1 v2 v3 x203 ho_v1 ho_v2 ho_o σ201 h)
            · refine ww_iconst C (dq dk_Law_law_13 10 rfl) ic_0 ?_
              exact ww_lret C hQ hres (by show k.2.2.2.2.2.2.2.2.2.2.2.2.2.1 ≤ 1130; omega) (by show k.2.2.2.2.2.2.2.2.2.2.2.2.2.2 ≤ 34937; omega) (dq dk_Law_law_13 11 rfl) h
          · refine ww_iconst C (dq dk_Law_law_13 0 rfl) ic_1 ?_
            refine ww_goto C 853 (dq dk_Law_law_13 1 rfl) (by decide) ?_
            refine ww_aload_n C 0 rfl rfl (dq dk_Law_law_13 3 rfl) ?_
            refine ww_iload C 4 rfl (dq dk_Law_law_13 4 rfl) ?_
            refine ww_iconst C (dq dk_Law_law_13 5 rfl) ic_2 ?_
            refine ww_iadd C (dq dk_Law_law_13 6 rfl) ?_
            refine ww_xld C hX (dq dk_Law_law_13 7 rfl) h (fun x204 h => ?_)
            refine ww_cVi (st := [.int x198]) C (c_Mo_data v2 ho_v2 1 x204) cw_Mo_data ho_v2 (lt_ rfl) rfl g_8_124 hRm ⟨⟨rfl, rfl⟩, le_ rfl, le_ rfl⟩ rfl rfl rfl (le_ rfl) (dq dk_Law_law_13 8 rfl) h (fun x206 σ205 h => ?_)
            refine ww_icmp_eq C 951 (dq dk_Law_law_13 9 rfl) (by decide) h (fun h => ?_) (fun h => ?_)
            · refine ww_iinc C 4 (fun z => [(4, .int z), (0, .ref b), (1, .ref (ad k v1)), (2, .ref (ad k v2)), (3, .ref (ad k v3))]) rfl ic_7 hnL (lt_ rfl) (fun _ => rfl) (dq dk_Law_law_14 25 rfl) h (fun x207 h => ?_)
              refine ww_goto C 23 (dq dk_Law_law_14 26 rfl) (by decide) ?_
              exact ww_lv [1, 2, 3, 4, 0] rfl (ih k C hQ hX hRm hnL hl0 (by show _ ≤ 1130; first | omega | (show _ + 1 + n ≤ 1130; omega)) (by show _ ≤ 34937; first | omega | (show _ + 6 + 6 * n ≤ 34937; omega)) v1 v2 v3 x207 ho_v1 ho_v2 ho_o σ205 h)
            · refine ww_iconst C (dq dk_Law_law_13 10 rfl) ic_0 ?_
              exact ww_lret C hQ hres (by show k.2.2.2.2.2.2.2.2.2.2.2.2.2.1 ≤ 1130; omega) (by show k.2.2.2.2.2.2.2.2.2.2.2.2.2.2 ≤ 34937; omega) (dq dk_Law_law_13 11 rfl) h
      rw [if_neg e16_16] at h
      by_cases e17_17 : x2 = 17
      · rw [if_pos e17_17] at h
        refine ww_tabIn C 867 (dq dk_Law_law_0 24 rfl) (by rw [e17_17]; decide) (by rw [e17_17]; decide) (by rw [e17_17]; rfl) (by decide) ?_
        refine ww_aload_n C 1 rfl rfl (dq dk_Law_law_13 12 rfl) ?_
        refine ww_aload_n C 0 rfl rfl (dq dk_Law_law_13 13 rfl) ?_
        refine ww_iload C 4 rfl (dq dk_Law_law_13 14 rfl) ?_
        refine ww_iconst C (dq dk_Law_law_13 15 rfl) ic_1 ?_
        refine ww_iadd C (dq dk_Law_law_13 16 rfl) ?_
        refine ww_xld C hX (dq dk_Law_law_13 17 rfl) h (fun x208 h => ?_)
        refine ww_if_eq C 881 (dq dk_Law_law_13 18 rfl) (by decide) h (fun h => ?_) (fun h => ?_)
        · refine ww_iconst C (dq dk_Law_law_13 21 rfl) ic_0 ?_
          refine ww_aload_n C 0 rfl rfl (dq dk_Law_law_13 22 rfl) ?_
          refine ww_iload C 4 rfl (dq dk_Law_law_13 23 rfl) ?_
          refine ww_iconst C (dq dk_Law_law_13 24 rfl) ic_2 ?_
          refine ww_iadd C (dq dk_Law_law_13 25 rfl) ?_
          refine ww_xld C hX (dq dk_Law_law_13 26 rfl) h (fun x209 h => ?_)
          refine ww_aload_n C 3 rfl rfl (dq dk_Law_law_13 27 rfl) ?_
          refine ww_hcall (st := []) C (c_Law_output v1 0 x209 v3 ho_v1 ho_o) hl0 cw_Law_output g_6_27 hRm ⟨⟨rfl, rfl⟩, le_ rfl, le_ rfl⟩ ⟨by show _ ≤ 1130; omega, by show _ ≤ 34937; omega⟩ rfl rfl rfl (le_ rfl) (dq dk_Law_law_13 28 rfl) h (fun x210 σ211 h => ?_)
          have C := cx_up C (n := 1) (r := 6) (by rw [hRm]; exact ⟨by show _ ≤ 1130; omega, by show _ ≤ 34937; omega⟩)
          refine ww_istore C [(5, .int x210), (0, .ref b), (1, .ref (ad k v1)), (2, .ref (ad k v2)), (3, .ref (ad k v3)), (4, .int v4)] hnL (lt_ rfl) rfl (dq dk_Law_law_13 29 rfl) ?_
          refine ww_aload_n C 3 rfl rfl (dq dk_Law_law_13 30 rfl) ?_
          refine ww_aload_n C 1 rfl rfl (dq dk_Law_law_13 31 rfl) ?_
          refine ww_iload C 5 rfl (dq dk_Law_law_13 32 rfl) ?_
          refine ww_iconst C (dq dk_Law_law_13 33 rfl) ic_1 ?_
          refine ww_iadd C (dq dk_Law_law_13 34 rfl) ?_
          refine ww_xld C hX (dq dk_Law_law_13 35 rfl) h (fun x212 h => ?_)
          refine ww_if_eq C 908 (dq dk_Law_law_13 36 rfl) (by decide) h (fun h => ?_) (fun h => ?_)
          · refine ww_iconst C (dq dk_Law_law_13 39 rfl) ic_0 ?_
            refine ww_aload_n C 1 rfl rfl (dq dk_Law_law_14 0 rfl) ?_
            refine ww_iload C 5 rfl (dq dk_Law_law_14 1 rfl) ?_
            refine ww_iconst C (dq dk_Law_law_14 2 rfl) ic_2 ?_
            refine ww_iadd C (dq dk_Law_law_14 3 rfl) ?_
            refine ww_xld C hX (dq dk_Law_law_14 4 rfl) h (fun x213 h => ?_)
            refine ww_cVi (st := []) C (c_Mo_output v2 ho_v2 0 x213) cw_Mo_output ho_v2 (lt_ rfl) rfl g_8_128 hRm ⟨⟨rfl, rfl⟩, le_ rfl, le_ rfl⟩ rfl rfl rfl (le_ rfl) (dq dk_Law_law_14 5 rfl) h (fun x215 σ214 h => ?_)
            refine ww_istore C [(6, .int x215), (5, .int x210), (0, .ref b), (1, .ref (ad k v1)), (2, .ref (ad k v2)), (3, .ref (ad k v3)), (4, .int v4)] hnL (lt_ rfl) rfl (dq dk_Law_law_14 6 rfl) ?_
            refine ww_aload_n C 4 rfl rfl (dq dk_Law_law_14 7 rfl) ?_
            refine ww_cVi (st := []) C (c_Mo_thrown v2 ho_v2) cw_Mo_thrown ho_v2 (lt_ rfl) rfl g_7_1 hRm ⟨⟨rfl, rfl⟩, le_ rfl, le_ rfl⟩ rfl rfl rfl (le_ rfl) (dq dk_Law_law_14 8 rfl) h (fun x217 σ216 h => ?_)
            refine ww_iload C 1 rfl (dq dk_Law_law_14 9 rfl) ?_
            refine ww_icmp_eq C 931 (dq dk_Law_law_14 10 rfl) (by decide) h (fun h => ?_) (fun h => ?_)
            · refine ww_iload C 1 rfl (dq dk_Law_law_14 13 rfl) ?_
              refine ww_if_ne C 948 (dq dk_Law_law_14 14 rfl) (by decide) h (fun h => ?_) (fun h => ?_)
              · refine ww_goto C 951 (dq dk_Law_law_14 24 rfl) (by decide) ?_
                refine ww_iinc C 6 (fun z => [(4, .int z), (6, .int x215), (5, .int x210), (0, .ref b), (1, .ref (ad k v1)), (2, .ref (ad k v2)), (3, .ref (ad k v3))]) rfl ic_7 hnL (lt_ rfl) (fun _ => rfl) (dq dk_Law_law_14 25 rfl) h (fun x218 h => ?_)
                refine ww_goto C 23 (dq dk_Law_law_14 26 rfl) (by decide) ?_
                exact ww_lv [3, 4, 5, 6, 0] rfl (ih (kup k 1 6) C hQ hX hRm hnL hl0 (by show _ ≤ 1130; first | omega | (show _ + 1 + n ≤ 1130; omega)) (by show _ ≤ 34937; first | omega | (show _ + 6 + 6 * n ≤ 34937; omega)) v1 v2 v3 x218 ho_v1 ho_v2 ho_o σ216 h)
              · refine ww_aload_n C 5 rfl rfl (dq dk_Law_law_14 15 rfl) ?_
                refine ww_iconst C (dq dk_Law_law_14 16 rfl) ic_0 ?_
                refine ww_lald C ho_o.1 ho_o.2 (dq dk_Law_law_14 17 rfl) h (fun x219 h => ?_)
                refine ww_iload C 0 rfl (dq dk_Law_law_14 18 rfl) ?_
                refine ww_i2l C (dq dk_Law_law_14 19 rfl) ?_
                refine ww_lcmp C (dq dk_Law_law_14 20 rfl) ?_
                refine ww_if_eq C 948 (dq dk_Law_law_14 21 rfl) (by decide) h (fun h => ?_) (fun h => ?_)
                · refine ww_goto C 951 (dq dk_Law_law_14 24 rfl) (by decide) ?_
                  refine ww_iinc C 6 (fun z => [(4, .int z), (6, .int x215), (5, .int x210), (0, .ref b), (1, .ref (ad k v1)), (2, .ref (ad k v2)), (3, .ref (ad k v3))]) rfl ic_7 hnL (lt_ rfl) (fun _ => rfl) (dq dk_Law_law_14 25 rfl) h (fun x220 h => ?_)
                  refine ww_goto C 23 (dq dk_Law_law_14 26 rfl) (by decide) ?_
                  exact ww_lv [3, 4, 5, 6, 0] rfl (ih (kup k 1 6) C hQ hX hRm hnL hl0 (by show _ ≤ 1130; first | omega | (show _ + 1 + n ≤ 1130; omega)) (by show _ ≤ 34937; first | omega | (show _ + 6 + 6 * n ≤ 34937; omega)) v1 v2 v3 x220 ho_v1 ho_v2 ho_o σ216 h)
                · refine ww_iconst C (dq dk_Law_law_14 22 rfl) ic_0 ?_
                  exact ww_lret C hQ hres (by show k.2.2.2.2.2.2.2.2.2.2.2.2.2.1 + 1 ≤ 1130; omega) (by show k.2.2.2.2.2.2.2.2.2.2.2.2.2.2 + 6 ≤ 34937; omega) (dq dk_Law_law_14 23 rfl) h
            · refine ww_iconst C (dq dk_Law_law_14 11 rfl) ic_0 ?_
              exact ww_lret C hQ hres (by show k.2.2.2.2.2.2.2.2.2.2.2.2.2.1 + 1 ≤ 1130; omega) (by show k.2.2.2.2.2.2.2.2.2.2.2.2.2.2 + 6 ≤ 34937; omega) (dq dk_Law_law_14 12 rfl) h
          · refine ww_iconst C (dq dk_Law_law_13 37 rfl) ic_1 ?_
            refine ww_goto C 909 (dq dk_Law_law_13 38 rfl) (by decide) ?_
            refine ww_aload_n C 1 rfl rfl (dq dk_Law_law_14 0 rfl) ?_
            refine ww_iload C 5 rfl (dq dk_Law_law_14 1 rfl) ?_
            refine ww_iconst C (dq dk_Law_law_14 2 rfl) ic_2 ?_
            refine ww_iadd C (dq dk_Law_law_14 3 rfl) ?_
            refine ww_xld C hX (dq dk_Law_law_14 4 rfl) h (fun x221 h => ?_)
            refine ww_cVi (st := []) C (c_Mo_output v2 ho_v2 1 x221) cw_Mo_output ho_v2 (lt_ rfl) rfl g_8_128 hRm ⟨⟨rfl, rfl⟩, le_ rfl, le_ rfl⟩ rfl rfl rfl (le_ rfl) (dq dk_Law_law_14 5 rfl) h (fun x223 σ222 h => ?_)
            refine ww_istore C [(6, .int x223), (5, .int x210), (0, .ref b), (1, .ref (ad k v1)), (2, .ref (ad k v2)), (3, .ref (ad k v3)), (4, .int v4)] hnL (lt_ rfl) rfl (dq dk_Law_law_14 6 rfl) ?_
            refine ww_aload_n C 4 rfl rfl (dq dk_Law_law_14 7 rfl) ?_
            refine ww_cVi (st := []) C (c_Mo_thrown v2 ho_v2) cw_Mo_thrown ho_v2 (lt_ rfl) rfl g_7_1 hRm ⟨⟨rfl, rfl⟩, le_ rfl, le_ rfl⟩ rfl rfl rfl (le_ rfl) (dq dk_Law_law_14 8 rfl) h (fun x225 σ224 h => ?_)
            refine ww_iload C 1 rfl (dq dk_Law_law_14 9 rfl) ?_
            refine ww_icmp_eq C 931 (dq dk_Law_law_14 10 rfl) (by decide) h (fun h => ?_) (fun h => ?_)
            · refine ww_iload C 1 rfl (dq dk_Law_law_14 13 rfl) ?_
              refine ww_if_ne C 948 (dq dk_Law_law_14 14 rfl) (by decide) h (fun h => ?_) (fun h => ?_)
              · refine ww_goto C 951 (dq dk_Law_law_14 24 rfl) (by decide) ?_
                refine ww_iinc C 6 (fun z => [(4, .int z), (6, .int x223), (5, .int x210), (0, .ref b), (1, .ref (ad k v1)), (2, .ref (ad k v2)), (3, .ref (ad k v3))]) rfl ic_7 hnL (lt_ rfl) (fun _ => rfl) (dq dk_Law_law_14 25 rfl) h (fun x226 h => ?_)
                refine ww_goto C 23 (dq dk_Law_law_14 26 rfl) (by decide) ?_
                exact ww_lv [3, 4, 5, 6, 0] rfl (ih (kup k 1 6) C hQ hX hRm hnL hl0 (by show _ ≤ 1130; first | omega | (show _ + 1 + n ≤ 1130; omega)) (by show _ ≤ 34937; first | omega | (show _ + 6 + 6 * n ≤ 34937; omega)) v1 v2 v3 x226 ho_v1 ho_v2 ho_o σ224 h)
              · refine ww_aload_n C 5 rfl rfl (dq dk_Law_law_14 15 rfl) ?_
                refine ww_iconst C (dq dk_Law_law_14 16 rfl) ic_0 ?_
                refine ww_lald C ho_o.1 ho_o.2 (dq dk_Law_law_14 17 rfl) h (fun x227 h => ?_)
                refine ww_iload C 0 rfl (dq dk_Law_law_14 18 rfl) ?_
                refine ww_i2l C (dq dk_Law_law_14 19 rfl) ?_
                refine ww_lcmp C (dq dk_Law_law_14 20 rfl) ?_
                refine ww_if_eq C 948 (dq dk_Law_law_14 21 rfl) (by decide) h (fun h => ?_) (fun h => ?_)
                · refine ww_goto C 951 (dq dk_Law_law_14 24 rfl) (by decide) ?_
                  refine ww_iinc C 6 (fun z => [(4, .int z), (6, .int x223), (5, .int x210), (0, .ref b), (1, .ref (ad k v1)), (2, .ref (ad k v2)), (3, .ref (ad k v3))]) rfl ic_7 hnL (lt_ rfl) (fun _ => rfl) (dq dk_Law_law_14 25 rfl) h (fun x228 h => ?_)
                  refine ww_goto C 23 (dq dk_Law_law_14 26 rfl) (by decide) ?_
                  exact ww_lv [3, 4, 5, 6, 0] rfl (ih (kup k 1 6) C hQ hX hRm hnL hl0 (by show _ ≤ 1130; first | omega | (show _ + 1 + n ≤ 1130; omega)) (by show _ ≤ 34937; first | omega | (show _ + 6 + 6 * n ≤ 34937; omega)) v1 v2 v3 x228 ho_v1 ho_v2 ho_o σ224 h)
                · refine ww_iconst C (dq dk_Law_law_14 22 rfl) ic_0 ?_
                  exact ww_lret C hQ hres (by show k.2.2.2.2.2.2.2.2.2.2.2.2.2.1 + 1 ≤ 1130; omega) (by show k.2.2.2.2.2.2.2.2.2.2.2.2.2.2 + 6 ≤ 34937; omega) (dq dk_Law_law_14 23 rfl) h
            · refine ww_iconst C (dq dk_Law_law_14 11 rfl) ic_0 ?_
              exact ww_lret C hQ hres (by show k.2.2.2.2.2.2.2.2.2.2.2.2.2.1 + 1 ≤ 1130; omega) (by show k.2.2.2.2.2.2.2.2.2.2.2.2.2.2 + 6 ≤ 34937; omega) (dq dk_Law_law_14 12 rfl) h
        · refine ww_iconst C (dq dk_Law_law_13 19 rfl) ic_1 ?_
          refine ww_goto C 882 (dq dk_Law_law_13 20 rfl) (by decide) ?_
          refine ww_aload_n C 0 rfl rfl (dq dk_Law_law_13 22 rfl) ?_
          refine ww_iload C 4 rfl (dq dk_Law_law_13 23 rfl) ?_
          refine ww_iconst C (dq dk_Law_law_13 24 rfl) ic_2 ?_
          refine ww_iadd C (dq dk_Law_law_13 25 rfl) ?_
          refine ww_xld C hX (dq dk_Law_law_13 26 rfl) h (fun x229 h => ?_)
          refine ww_aload_n C 3 rfl rfl (dq dk_Law_law_13 27 rfl) ?_
          refine ww_hcall (st := []) C (c_Law_output v1 1 x229 v3 ho_v1 ho_o) hl0 cw_Law_output g_6_27 hRm ⟨⟨rfl, rfl⟩, le_ rfl, le_ rfl⟩ ⟨by show _ ≤ 1130; omega, by show _ ≤ 34937; omega⟩ rfl rfl rfl (le_ rfl) (dq dk_Law_law_13 28 rfl) h (fun x230 σ231 h => ?_)
          have C := cx_up C (n := 1) (r := 6) (by rw [hRm]; exact ⟨by show _ ≤ 1130; omega, by show _ ≤ 34937; omega⟩)
          refine ww_istore C [(5, .int x230), (0, .ref b), (1, .ref (ad k v1)), (2, .ref (ad k v2)), (3, .ref (ad k v3)), (4, .int v4)] hnL (lt_ rfl) rfl (dq dk_Law_law_13 29 rfl) ?_
          refine ww_aload_n C 3 rfl rfl (dq dk_Law_law_13 30 rfl) ?_
          refine ww_aload_n C 1 rfl rfl (dq dk_Law_law_13 31 rfl) ?_
          refine ww_iload C 5 rfl (dq dk_Law_law_13 32 rfl) ?_
          refine ww_iconst C (dq dk_Law_law_13 33 rfl) ic_1 ?_
          refine ww_iadd C (dq dk_Law_law_13 34 rfl) ?_
          refine ww_xld C hX (dq dk_Law_law_13 35 rfl) h (fun x232 h => ?_)
          refine ww_if_eq C 908 (dq dk_Law_law_13 36 rfl) (by decide) h (fun h => ?_) (fun h => ?_)
          · refine ww_iconst C (dq dk_Law_law_13 39 rfl) ic_0 ?_
            refine ww_aload_n C 1 rfl rfl (dq dk_Law_law_14 0 rfl) ?_
            refine ww_iload C 5 rfl (dq dk_Law_law_14 1 rfl) ?_
            refine ww_iconst C (dq dk_Law_law_14 2 rfl) ic_2 ?_
            refine ww_iadd C (dq dk_Law_law_14 3 rfl) ?_
            refine ww_xld C hX (dq dk_Law_law_14 4 rfl) h (fun x233 h => ?_)
            refine ww_cVi (st := []) C (c_Mo_output v2 ho_v2 0 x233) cw_Mo_output ho_v2 (lt_ rfl) rfl g_8_128 hRm ⟨⟨rfl, rfl⟩, le_ rfl, le_ rfl⟩ rfl rfl rfl (le_ rfl) (dq dk_Law_law_14 5 rfl) h (fun x235 σ234 h => ?_)
            refine ww_istore C [(6, .int x235), (5, .int x230), (0, .ref b), (1, .ref (ad k v1)), (2, .ref (ad k v2)), (3, .ref (ad k v3)), (4, .int v4)] hnL (lt_ rfl) rfl (dq dk_Law_law_14 6 rfl) ?_
            refine ww_aload_n C 4 rfl rfl (dq dk_Law_law_14 7 rfl) ?_
            refine ww_cVi (st := []) C (c_Mo_thrown v2 ho_v2) cw_Mo_thrown ho_v2 (lt_ rfl) rfl g_7_1 hRm ⟨⟨rfl, rfl⟩, le_ rfl, le_ rfl⟩ rfl rfl rfl (le_ rfl) (dq dk_Law_law_14 8 rfl) h (fun x237 σ236 h => ?_)
            refine ww_iload C 1 rfl (dq dk_Law_law_14 9 rfl) ?_
            refine ww_icmp_eq C 931 (dq dk_Law_law_14 10 rfl) (by decide) h (fun h => ?_) (fun h => ?_)
            · refine ww_iload C 1 rfl (dq dk_Law_law_14 13 rfl) ?_
              refine ww_if_ne C 948 (dq dk_Law_law_14 14 rfl) (by decide) h (fun h => ?_) (fun h => ?_)
              · refine ww_goto C 951 (dq dk_Law_law_14 24 rfl) (by decide) ?_
                refine ww_iinc C 6 (fun z => [(4, .int z), (6, .int x235), (5, .int x230), (0, .ref b), (1, .ref (ad k v1)), (2, .ref (ad k v2)), (3, .ref (ad k v3))]) rfl ic_7 hnL (lt_ rfl) (fun _ => rfl) (dq dk_Law_law_14 25 rfl) h (fun x238 h => ?_)
                refine ww_goto C 23 (dq dk_Law_law_14 26 rfl) (by decide) ?_
                exact ww_lv [3, 4, 5, 6, 0] rfl (ih (kup k 1 6) C hQ hX hRm hnL hl0 (by show _ ≤ 1130; first | omega | (show _ + 1 + n ≤ 1130; omega)) (by show _ ≤ 34937; first | omega | (show _ + 6 + 6 * n ≤ 34937; omega)) v1 v2 v3 x238 ho_v1 ho_v2 ho_o σ236 h)
              · refine ww_aload_n C 5 rfl rfl (dq dk_Law_law_14 15 rfl) ?_
                refine ww_iconst C (dq dk_Law_law_14 16 rfl) ic_0 ?_
                refine ww_lald C ho_o.1 ho_o.2 (dq dk_Law_law_14 17 rfl) h (fun x239 h => ?_)
                refine ww_iload C 0 rfl (dq dk_Law_law_14 18 rfl) ?_
                refine ww_i2l C (dq dk_Law_law_14 19 rfl) ?_
                refine ww_lcmp C (dq dk_Law_law_14 20 rfl) ?_
                refine ww_if_eq C 948 (dq dk_Law_law_14 21 rfl) (by decide) h (fun h => ?_) (fun h => ?_)
                · refine ww_goto C 951 (dq dk_Law_law_14 24 rfl) (by decide) ?_
                  refine ww_iinc C 6 (fun z => [(4, .int z), (6, .int x235), (5, .int x230), (0, .ref b), (1, .ref (ad k v1)), (2, .ref (ad k v2)), (3, .ref (ad k v3))]) rfl ic_7 hnL (lt_ rfl) (fun _ => rfl) (dq dk_Law_law_14 25 rfl) h (fun x240 h => ?_)
                  refine ww_goto C 23 (dq dk_Law_law_14 26 rfl) (by decide) ?_
                  exact ww_lv [3, 4, 5, 6, 0] rfl (ih (kup k 1 6) C hQ hX hRm hnL hl0 (by show _ ≤ 1130; first | omega | (show _ + 1 + n ≤ 1130; omega)) (by show _ ≤ 34937; first | omega | (show _ + 6 + 6 * n ≤ 34937; omega)) v1 v2 v3 x240 ho_v1 ho_v2 ho_o σ236 h)
                · refine ww_iconst C (dq dk_Law_law_14 22 rfl) ic_0 ?_
                  exact ww_lret C hQ hres (by show k.2.2.2.2.2.2.2.2.2.2.2.2.2.1 + 1 ≤ 1130; omega) (by show k.2.2.2.2.2.2.2.2.2.2.2.2.2.2 + 6 ≤ 34937; omega) (dq dk_Law_law_14 23 rfl) h
            · refine ww_iconst C (dq dk_Law_law_14 11 rfl) ic_0 ?_
              exact ww_lret C hQ hres (by show k.2.2.2.2.2.2.2.2.2.2.2.2.2.1 + 1 ≤ 1130; omega) (by show k.2.2.2.2.2.2.2.2.2.2.2.2.2.2 + 6 ≤ 34937; omega) (dq dk_Law_law_14 12 rfl) h
          · refine ww_iconst C (dq dk_Law_law_13 37 rfl) ic_1 ?_
            refine ww_goto C 909 (dq dk_Law_law_13 38 rfl) (by decide) ?_
            refine ww_aload_n C 1 rfl rfl (dq dk_Law_law_14 0 rfl) ?_
            refine ww_iload C 5 rfl (dq dk_Law_law_14 1 rfl) ?_
            refine ww_iconst C (dq dk_Law_law_14 2 rfl) ic_2 ?_
            refine ww_iadd C (dq dk_Law_law_14 3 rfl) ?_
            refine ww_xld C hX (dq dk_Law_law_14 4 rfl) h (fun x241 h => ?_)
            refine ww_cVi (st := []) C (c_Mo_output v2 ho_v2 1 x241) cw_Mo_output ho_v2 (lt_ rfl) rfl g_8_128 hRm ⟨⟨rfl, rfl⟩, le_ rfl, le_ rfl⟩ rfl rfl rfl (le_ rfl) (dq dk_Law_law_14 5 rfl) h (fun x243 σ242 h => ?_)
            refine ww_istore C [(6, .int x243), (5, .int x230), (0, .ref b), (1, .ref (ad k v1)), (2, .ref (ad k v2)), (3, .ref (ad k v3)), (4, .int v4)] hnL (lt_ rfl) rfl (dq dk_Law_law_14 6 rfl) ?_
            refine ww_aload_n C 4 rfl rfl (dq dk_Law_law_14 7 rfl) ?_
            refine ww_cVi (st := []) C (c_Mo_thrown v2 ho_v2) cw_Mo_thrown ho_v2 (lt_ rfl) rfl g_7_1 hRm ⟨⟨rfl, rfl⟩, le_ rfl, le_ rfl⟩ rfl rfl rfl (le_ rfl) (dq dk_Law_law_14 8 rfl) h (fun x245 σ244 h => ?_)
            refine ww_iload C 1 rfl (dq dk_Law_law_14 9 rfl) ?_
            refine ww_icmp_eq C 931 (dq dk_Law_law_14 10 rfl) (by decide) h (fun h => ?_) (fun h => ?_)
            · refine ww_iload C 1 rfl (dq dk_Law_law_14 13 rfl) ?_
              refine ww_if_ne C 948 (dq dk_Law_law_14 14 rfl) (by decide) h (fun h => ?_) (fun h => ?_)
              · refine ww_goto C 951 (dq dk_Law_law_14 24 rfl) (by decide) ?_
                refine ww_iinc C 6 (fun z => [(4, .int z), (6, .int x243), (5, .int x230), (0, .ref b), (1, .ref (ad k v1)), (2, .ref (ad k v2)), (3, .ref (ad k v3))]) rfl ic_7 hnL (lt_ rfl) (fun _ => rfl) (dq dk_Law_law_14 25 rfl) h (fun x246 h => ?_)
                refine ww_goto C 23 (dq dk_Law_law_14 26 rfl) (by decide) ?_
                exact ww_lv [3, 4, 5, 6, 0] rfl (ih (kup k 1 6) C hQ hX hRm hnL hl0 (by show _ ≤ 1130; first | omega | (show _ + 1 + n ≤ 1130; omega)) (by show _ ≤ 34937; first | omega | (show _ + 6 + 6 * n ≤ 34937; omega)) v1 v2 v3 x246 ho_v1 ho_v2 ho_o σ244 h)
              · refine ww_aload_n C 5 rfl rfl (dq dk_Law_law_14 15 rfl) ?_
                refine ww_iconst C (dq dk_Law_law_14 16 rfl) ic_0 ?_
                refine ww_lald C ho_o.1 ho_o.2 (dq dk_Law_law_14 17 rfl) h (fun x247 h => ?_)
                refine ww_iload C 0 rfl (dq dk_Law_law_14 18 rfl) ?_
                refine ww_i2l C (dq dk_Law_law_14 19 rfl) ?_
                refine ww_lcmp C (dq dk_Law_law_14 20 rfl) ?_
                refine ww_if_eq C 948 (dq dk_Law_law_14 21 rfl) (by decide) h (fun h => ?_) (fun h => ?_)
                · refine ww_goto C 951 (dq dk_Law_law_14 24 rfl) (by decide) ?_
                  refine ww_iinc C 6 (fun z => [(4, .int z), (6, .int x243), (5, .int x230), (0, .ref b), (1, .ref (ad k v1)), (2, .ref (ad k v2)), (3, .ref (ad k v3))]) rfl ic_7 hnL (lt_ rfl) (fun _ => rfl) (dq dk_Law_law_14 25 rfl) h (fun x248 h => ?_)
                  refine ww_goto C 23 (dq dk_Law_law_14 26 rfl) (by decide) ?_
                  exact ww_lv [3, 4, 5, 6, 0] rfl (ih (kup k 1 6) C hQ hX hRm hnL hl0 (by show _ ≤ 1130; first | omega | (show _ + 1 + n ≤ 1130; omega)) (by show _ ≤ 34937; first | omega | (show _ + 6 + 6 * n ≤ 34937; omega)) v1 v2 v3 x248 ho_v1 ho_v2 ho_o σ244 h)
                · refine ww_iconst C (dq dk_Law_law_14 22 rfl) ic_0 ?_
                  exact ww_lret C hQ hres (by show k.2.2.2.2.2.2.2.2.2.2.2.2.2.1 + 1 ≤ 1130; omega) (by show k.2.2.2.2.2.2.2.2.2.2.2.2.2.2 + 6 ≤ 34937; omega) (dq dk_Law_law_14 23 rfl) h
            · refine ww_iconst C (dq dk_Law_law_14 11 rfl) ic_0 ?_
              exact ww_lret C hQ hres (by show k.2.2.2.2.2.2.2.2.2.2.2.2.2.1 + 1 ≤ 1130; omega) (by show k.2.2.2.2.2.2.2.2.2.2.2.2.2.2 + 6 ≤ 34937; omega) (dq dk_Law_law_14 12 rfl) h
      rw [if_neg e17_17] at h
      have ne0_0 := lv_neT (a := 0) e0_0 (by decide)
      have ne1_1 := lv_neT (a := 1) e1_1 (by decide)
      have ne2_2 := lv_neT (a := 2) e2_2 (by decide)
      have ne3_3 := lv_neT (a := 3) e3_3 (by decide)
      have ne4_4 := lv_neT (a := 4) e4_4 (by decide)
      have ne5_5 := lv_neT (a := 5) e5_5 (by decide)
      have ne6_6 := lv_neT (a := 6) e6_6 (by decide)
      have ne7_7 := lv_neT (a := 7) e7_7 (by decide)
      have ne8_8 := lv_neT (a := 8) e8_8 (by decide)
      have ne9_9 := lv_neT (a := 9) e9_9 (by decide)
      have ne10_10 := lv_neT (a := 10) e10_10 (by decide)
      have ne11_11 := lv_neT (a := 11) e11_11 (by decide)
      have ne12_12 := lv_neT (a := 12) e12_12 (by decide)
      have ne13_13 := lv_neT (a := 13) e13_13 (by decide)
      have ne14_14 := lv_neT (a := 14) e14_14 (by decide)
      have ne15_15 := lv_neT (a := 15) e15_15 (by decide)
      have ne16_16 := lv_neT (a := 16) e16_16 (by decide)
      have ne17_17 := lv_neT (a := 17) e17_17 (by decide)
      refine ww_tabOut C 951 (dq dk_Law_law_0 24 rfl) (by omega) (by decide) ?_
      refine ww_iinc C 4 (fun z => [(4, .int z), (0, .ref b), (1, .ref (ad k v1)), (2, .ref (ad k v2)), (3, .ref (ad k v3))]) rfl ic_7 hnL (lt_ rfl) (fun _ => rfl) (dq dk_Law_law_14 25 rfl) h (fun x249 h => ?_)
      refine ww_goto C 23 (dq dk_Law_law_14 26 rfl) (by decide) ?_
      exact ww_lv [1, 2, 3, 4, 0] rfl (ih k C hQ hX hRm hnL hl0 (by show _ ≤ 1130; first | omega | (show _ + 1 + n ≤ 1130; omega)) (by show _ ≤ 34937; first | omega | (show _ + 6 + 6 * n ≤ 34937; omega)) v1 v2 v3 x249 ho_v1 ho_v2 ho_o σ h)
