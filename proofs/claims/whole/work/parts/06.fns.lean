def Strip_addFour_B3 : Nat → Nat → Int32 → Int32 → St → Option (St)
  | 0, _, _, _, _ => none
  | n + 1, v0, v1, v2, σ =>
    if v2 < 0 then
      some σ
    else
      if 1100 ≤ (σ v0 2) then
        nm (v2 + (-8)) fun x1 =>
        Strip_addFour_B3 n v0 v1 x1 σ
      else
        sa σ (ch v0 0) 1100 (σ v0 2) ((ushr v1 v2) &&& 255) fun σ2 =>
        nm (s2 σ2 v0 2 ((σ2 v0 2) + 1)) fun σ3 =>
        nm (v2 + (-8)) fun x4 =>
        Strip_addFour_B3 n v0 v1 x4 σ3
def Strip_addFour (v0 : Nat) (v1 : Int32) (σ : St) : Option (St) :=
  Strip_addFour_B3 FU v0 v1 24 σ
def Strip_byteAt (v0 : Nat) (v1 : Int32) (σ : St) : Option (Int32 × St) :=
  if v1 < 0 then
    some ((-1), σ)
  else
    if v1 < (σ v0 2) then
      ld σ (ch v0 0) 1100 v1 fun x1 =>
      some (x1, σ)
    else
      some ((-1), σ)
def Strip_putPiece_B2 : Nat → Nat → Int32 → Nat → Int32 → St → Option (St)
  | 0, _, _, _, _, _ => none
  | n + 1, v0, v1, v2, v3, σ =>
    if (σ v2 1) ≤ v3 then
      some σ
    else
      if (v1 + v3) < 0 then
        nm (v3 + 1) fun x1 =>
        Strip_putPiece_B2 n v0 v1 v2 x1 σ
      else
        if 1100 ≤ (v1 + v3) then
          nm (v3 + 1) fun x2 =>
          Strip_putPiece_B2 n v0 v1 v2 x2 σ
        else
          ld σ (ch v2 0) 16 v3 fun x3 =>
          sa σ (ch v0 0) 1100 (v1 + v3) x3 fun σ4 =>
          nm (v3 + 1) fun x5 =>
          Strip_putPiece_B2 n v0 v1 v2 x5 σ4
def Strip_putPiece (v0 : Nat) (v1 : Int32) (v2 : Nat) (σ : St) : Option (St) :=
  Strip_putPiece_B2 FU v0 v1 v2 0 σ
def Strip_becomeFilling_B17 : Nat → Nat → Int32 → Int32 → St → Option (St)
  | 0, _, _, _, _ => none
  | n + 1, v0, v2, v3, σ =>
    if (σ v0 2) ≤ v3 then
      some σ
    else
      if v2 ≤ v3 then
        sa σ (ch v0 0) 1100 v3 244 fun σ1 =>
        nm (v3 + 1) fun x2 =>
        Strip_becomeFilling_B17 n v0 v2 x2 σ1
      else
        sa σ (ch v0 0) 1100 v3 144 fun σ3 =>
        nm (v3 + 1) fun x4 =>
        Strip_becomeFilling_B17 n v0 v2 x4 σ3
def Strip_becomeFilling (v0 : Nat) (v1 : Int32) (v2 : Int32) (σ : St) : Option (St) :=
  nm (s2 σ v0 2 (mx 0 (mn v1 1100))) fun σ1 =>
  Strip_becomeFilling_B17 FU v0 v2 0 σ1
def Strip_markAt (v0 : Nat) (v1 : Int32) (σ : St) : Option (Int32 × St) :=
  if v1 < 0 then
    some (0, σ)
  else
    if v1 < (σ v0 2) then
      ld σ (ch v0 1) 1100 v1 fun x1 =>
      some (x1, σ)
    else
      some (0, σ)
def Strip_mark (v0 : Nat) (v1 : Int32) (v2 : Int32) (σ : St) : Option (St) :=
  if v1 < 0 then
    some σ
  else
    if 1100 ≤ v1 then
      some σ
    else
      sa σ (ch v0 1) 1100 v1 v2 fun σ1 =>
      some σ1
def Strip_dropMarks_B2 : Nat → Nat → Int32 → St → Option (St)
  | 0, _, _, _ => none
  | n + 1, v0, v1, σ =>
    if 1100 ≤ v1 then
      some σ
    else
      sa σ (ch v0 1) 1100 v1 0 fun σ1 =>
      nm (v1 + 1) fun x2 =>
      Strip_dropMarks_B2 n v0 x2 σ1
def Strip_dropMarks (v0 : Nat) (σ : St) : Option (St) :=
  Strip_dropMarks_B2 FU v0 0 σ
def Strip_copyFrom (v0 : Nat) (v1 : Nat) (σ : St) : Option (St) :=
  cp σ (ch v1 0) 1100 0 (ch v0 0) 1100 0 1100 fun σ1 =>
  cp σ1 (ch v1 1) 1100 0 (ch v0 1) 1100 0 1100 fun σ2 =>
  nm (s2 σ2 v0 2 (σ2 v1 2)) fun σ3 =>
  some σ3
def Instruction_fill (v0 : Nat) (v1 : Int32) (v2 : Int32) (v3 : Int32) (v4 : Int32) (v5 : Int32) (v6 : Int32) (σ : St) : Option (St) :=
  nm (s2 σ v0 0 v1) fun σ1 =>
  nm (s2 σ1 v0 1 v2) fun σ2 =>
  nm (s2 σ2 v0 2 v3) fun σ3 =>
  nm (s2 σ3 v0 3 v4) fun σ4 =>
  nm (s2 σ4 v0 4 v5) fun σ5 =>
  nm (s2 σ5 v0 5 v6) fun σ6 =>
  some σ6
def Instruction_base (v0 : Nat) (σ : St) : Option (Int32 × St) :=
  some ((σ v0 3) &&& 15, σ)
def Instruction_index (v0 : Nat) (σ : St) : Option (Int32 × St) :=
  some ((shr (σ v0 3) 4) &&& 15, σ)
def Instruction_scale (v0 : Nat) (σ : St) : Option (Int32 × St) :=
  some ((shr (σ v0 3) 8) &&& 3, σ)
def Instruction_part (v0 : Nat) (v1 : Int32) (σ : St) : Option (Int32 × St) :=
  if v1 = 0 then
    some (σ v0 6, σ)
  else
  if v1 = 1 then
    some (σ v0 0, σ)
  else
  if v1 = 2 then
    some (σ v0 1, σ)
  else
  if v1 = 3 then
    some (σ v0 2, σ)
  else
  if v1 = 4 then
    some (σ v0 3, σ)
  else
  if v1 = 5 then
    some (σ v0 4, σ)
  else
  some (σ v0 5, σ)
def Reader_groupOp (v0 : Nat) (v1 : Int32) (σ : St) : Option (Int32 × St) :=
  if v1 = 193 then
    if (σ v0 8) = 4 then
      some ((14 + (σ v0 8)) - 4, σ)
    else
      if ¬ (σ v0 8) = 5 then
        if ¬ (σ v0 8) = 7 then
          some ((-1), σ)
        else
          some (16, σ)
      else
        some ((14 + (σ v0 8)) - 4, σ)
  else
  if v1 = 199 then
    if ¬ (σ v0 8) = 0 then
      some ((-1), σ)
    else
      some (8, σ)
  else
  if v1 = 247 then
    if (σ v0 8) = 2 then
      some ((12 + (σ v0 8)) - 2, σ)
    else
      if ¬ (σ v0 8) = 3 then
        some ((-1), σ)
      else
        some ((12 + (σ v0 8)) - 2, σ)
  else
  if v1 = 255 then
    if ¬ (σ v0 7) = 0 then
      if ¬ (σ v0 8) = 4 then
        if ¬ (σ v0 8) = 2 then
          some ((-1), σ)
        else
          some (28, σ)
      else
        some (27, σ)
    else
      some ((-1), σ)
  else
  some (σ v0 8, σ)
def Reader_giveForm_B49 (v0 : Nat) (t0 : Nat) (t1 : Int32) (σ : St) : Option (St) :=
  nm (s2 σ t0 2 t1) fun σ1 =>
  if (σ1 v0 7) = 0 then
    nm (s2 σ1 (ch v0 0) 3 (σ1 (ch v0 0) 3)) fun σ2 =>
    some σ2
  else
    nm (s2 σ1 (ch v0 0) 3 (σ1 v0 8)) fun σ3 =>
    some σ3
def Reader_giveForm_B24 (v0 : Nat) (t0 : Nat) (t1 : Int32) (σ : St) : Option (St) :=
  nm (s2 σ t0 1 t1) fun σ1 =>
  if (σ1 v0 7) = 0 then
    Reader_giveForm_B49 v0 (ch v0 0) (σ1 v0 8) σ1
  else
    Reader_giveForm_B49 v0 (ch v0 0) (σ1 v0 9) σ1
def Reader_giveForm_B142 (v0 : Nat) (t0 : Nat) (t1 : Int32) (σ : St) : Option (St) :=
  nm (s2 σ t0 1 t1) fun σ1 =>
  nm (s2 σ1 (ch v0 0) 2 (σ1 v0 8)) fun σ2 =>
  if (σ2 v0 7) = 0 then
    nm (s2 σ2 (ch v0 0) 3 (σ2 (ch v0 0) 3)) fun σ3 =>
    some σ3
  else
    nm (s2 σ2 (ch v0 0) 3 (σ2 v0 9)) fun σ4 =>
    some σ4
def Reader_giveForm_B123 (v0 : Nat) (t0 : Nat) (t1 : Int32) (σ : St) : Option (St) :=
  zb t1 <|
  nm (s2 σ t0 3 t1) fun σ1 =>
  if (σ1 v0 7) = 0 then
    Reader_giveForm_B142 v0 (ch v0 0) 3 σ1
  else
    Reader_giveForm_B142 v0 (ch v0 0) 2 σ1
def Reader_giveForm_B270 (v0 : Nat) (t0 : Nat) (t1 : Int32) (σ : St) : Option (St) :=
  nm (s2 σ t0 1 t1) fun σ1 =>
  if (σ1 v0 7) = 0 then
    nm (s2 σ1 (ch v0 0) 2 0) fun σ2 =>
    some σ2
  else
    nm (s2 σ1 (ch v0 0) 2 (σ1 v0 9)) fun σ3 =>
    some σ3
def Reader_giveForm_B253 (v0 : Nat) (v2 : Int32) (t0 : Int32) (σ : St) : Option (St) :=
  if (σ v0 7) = 0 then
    Reader_giveForm_B270 v0 (ch v0 0) v2 σ
  else
    Reader_giveForm_B270 v0 (ch v0 0) t0 σ
def Reader_giveForm (v0 : Nat) (v1 : Int32) (σ : St) : Option (St) :=
  if ¬ (σ v0 4) = 1 then
    if ¬ (σ v0 4) = 2 then
      cl (Reader_groupOp v0 v1 σ) fun x2 σ1 =>
      nm (s2 σ1 (ch v0 0) 0 x2) fun σ3 =>
      if (σ3 v0 3) = 0 then
        nm (s2 σ3 v0 3 0) fun σ4 =>
        if ¬ (σ4 v0 5) = 0 then
          if ¬ (σ4 v0 5) = 0 then
            Reader_giveForm_B253 v0 6 5 σ4
          else
            Reader_giveForm_B253 v0 6 1 σ4
        else
          if ¬ (σ4 v0 5) = 0 then
            Reader_giveForm_B253 v0 7 5 σ4
          else
            Reader_giveForm_B253 v0 7 1 σ4
      else
        if (σ3 (ch v0 0) 0) = (-1) then
          nm (s2 σ3 v0 3 0) fun σ5 =>
          if ¬ (σ5 v0 5) = 0 then
            if ¬ (σ5 v0 5) = 0 then
              Reader_giveForm_B253 v0 6 5 σ5
            else
              Reader_giveForm_B253 v0 6 1 σ5
          else
            if ¬ (σ5 v0 5) = 0 then
              Reader_giveForm_B253 v0 7 5 σ5
            else
              Reader_giveForm_B253 v0 7 1 σ5
        else
          nm (s2 σ3 v0 3 1) fun σ6 =>
          if ¬ (σ6 v0 5) = 0 then
            if ¬ (σ6 v0 5) = 0 then
              Reader_giveForm_B253 v0 6 5 σ6
            else
              Reader_giveForm_B253 v0 6 1 σ6
          else
            if ¬ (σ6 v0 5) = 0 then
              Reader_giveForm_B253 v0 7 5 σ6
            else
              Reader_giveForm_B253 v0 7 1 σ6
    else
      if (σ v0 3) = 0 then
        Reader_giveForm_B123 v0 v0 0 σ
      else
        if (σ v0 7) = 0 then
          Reader_giveForm_B123 v0 v0 1 σ
        else
          if (σ (ch v0 0) 0) = 10 then
            Reader_giveForm_B123 v0 v0 0 σ
          else
            Reader_giveForm_B123 v0 v0 1 σ
  else
    if (σ v0 7) = 0 then
      Reader_giveForm_B24 v0 (ch v0 0) 4 σ
    else
      Reader_giveForm_B24 v0 (ch v0 0) 2 σ
def Reader_expect (v0 : Nat) (v1 : Int32) (v2 : Int32) (v3 : Int32) (v4 : Int32) (σ : St) : Option (St) :=
  nm (s2 σ (ch v0 0) 0 v1) fun σ1 =>
  nm (s2 σ1 (ch v0 0) 1 v2) fun σ2 =>
  nm (s2 σ2 (ch v0 0) 2 v3) fun σ3 =>
  nm (s2 σ3 v0 5 v4) fun σ4 =>
  some σ4
def House_isCondition (v0 : Int32) (σ : St) : Option (Int32 × St) :=
  if v0 < 0 then
    some (0, σ)
  else
    if 15 < v0 then
      some (0, σ)
    else
      if v0 = 10 then
        some (0, σ)
      else
        if v0 = 11 then
          some (0, σ)
        else
          some (1, σ)
def Reader_expectBranch_B20 (v0 : Nat) (v1 : Int32) (v2 : Int32) (t0 : Nat) (t1 : Int32) (σ : St) : Option (St) :=
  zb t1 <|
  nm (s2 σ t0 3 t1) fun σ1 =>
  cv (Reader_expect v0 25 8 v1 v2 σ1) fun σ2 =>
  some σ2
def Reader_expectBranch (v0 : Nat) (v1 : Int32) (v2 : Int32) (σ : St) : Option (St) :=
  if (σ v0 3) = 0 then
    Reader_expectBranch_B20 v0 v1 v2 v0 0 σ
  else
    cl (House_isCondition v1 σ) fun x2 σ1 =>
    if x2 = 0 then
      Reader_expectBranch_B20 v0 v1 v2 v0 0 σ1
    else
      Reader_expectBranch_B20 v0 v1 v2 v0 1 σ1
def Reader_expectOperand (v0 : Nat) (v1 : Int32) (v2 : Int32) (v3 : Int32) (σ : St) : Option (St) :=
  nm (s2 σ v0 4 v1) fun σ1 =>
  nm (s2 σ1 (ch v0 0) 0 v2) fun σ2 =>
  nm (s2 σ2 v0 5 v3) fun σ3 =>
  some σ3
def Reader_shapeArithmetic (v0 : Nat) (v1 : Int32) (σ : St) : Option (St) :=
  if ¬ (v1 &&& 7) = 1 then
    if ¬ (v1 &&& 7) = 3 then
      nm (s2 σ v0 3 0) fun σ1 =>
      some σ1
    else
      cv (Reader_expectOperand v0 2 (shr v1 3) 0 σ) fun σ2 =>
      some σ2
  else
    cv (Reader_expectOperand v0 1 (shr v1 3) 0 σ) fun σ3 =>
    some σ3
def Reader_shapeOther (v0 : Nat) (v1 : Int32) (σ : St) : Option (St) :=
  if v1 = 104 then
    cv (Reader_expect v0 19 8 0 4 σ) fun σ1 =>
    some σ1
  else
  if v1 = 106 then
    cv (Reader_expect v0 19 8 0 1 σ) fun σ2 =>
    some σ2
  else
  if v1 = 129 then
    cv (Reader_expectOperand v0 3 0 4 σ) fun σ3 =>
    some σ3
  else
  if v1 = 131 then
    cv (Reader_expectOperand v0 3 0 1 σ) fun σ4 =>
    some σ4
  else
  if v1 = 133 then
    cv (Reader_expectOperand v0 1 9 0 σ) fun σ5 =>
    some σ5
  else
  if v1 = 137 then
    cv (Reader_expectOperand v0 1 8 0 σ) fun σ6 =>
    some σ6
  else
  if v1 = 139 then
    cv (Reader_expectOperand v0 2 8 0 σ) fun σ7 =>
    some σ7
  else
  if v1 = 141 then
    cv (Reader_expectOperand v0 2 10 0 σ) fun σ8 =>
    some σ8
  else
  if v1 = 144 then
    cv (Reader_expect v0 21 0 0 0 σ) fun σ9 =>
    some σ9
  else
  if v1 = 193 then
    cv (Reader_expectOperand v0 3 14 2 σ) fun σ10 =>
    some σ10
  else
  if v1 = 195 then
    cv (Reader_expect v0 23 0 0 0 σ) fun σ11 =>
    some σ11
  else
  if v1 = 199 then
    cv (Reader_expectOperand v0 3 8 4 σ) fun σ12 =>
    some σ12
  else
  if v1 = 232 then
    cv (Reader_expect v0 26 8 0 4 σ) fun σ13 =>
    some σ13
  else
  if v1 = 233 then
    cv (Reader_expect v0 24 8 0 4 σ) fun σ14 =>
    some σ14
  else
  if v1 = 235 then
    cv (Reader_expect v0 24 8 0 1 σ) fun σ15 =>
    some σ15
  else
  if v1 = 244 then
    cv (Reader_expect v0 22 0 0 0 σ) fun σ16 =>
    some σ16
  else
  if v1 = 247 then
    cv (Reader_expectOperand v0 3 12 0 σ) fun σ17 =>
    some σ17
  else
  if v1 = 255 then
    cv (Reader_expectOperand v0 3 27 0 σ) fun σ18 =>
    some σ18
  else
  nm (s2 σ v0 3 0) fun σ19 =>
  some σ19
def Reader_shape_B68 (v0 : Nat) (v1 : Int32) (σ : St) : Option (St) :=
  if v1 < 184 then
    cv (Reader_shapeOther v0 v1 σ) fun σ1 =>
    some σ1
  else
    if 192 ≤ v1 then
      cv (Reader_shapeOther v0 v1 σ) fun σ2 =>
      some σ2
    else
      cv (Reader_expect v0 8 5 (v1 - 184) 4 σ) fun σ3 =>
      some σ3
def Reader_shape (v0 : Nat) (v1 : Int32) (σ : St) : Option (St) :=
  if 64 ≤ v1 then
    if 96 ≤ v1 then
      if v1 < 112 then
        Reader_shape_B68 v0 v1 σ
      else
        if 128 ≤ v1 then
          Reader_shape_B68 v0 v1 σ
        else
          cv (Reader_expectBranch v0 (v1 - 112) 1 σ) fun σ1 =>
          some σ1
    else
      cv (Reader_expect v0 (17 + ((v1 - 64) / 8)) 1 (v1 &&& 7) 0 σ) fun σ2 =>
      some σ2
  else
    cv (Reader_shapeArithmetic v0 v1 σ) fun σ3 =>
    some σ3
def Reader_shapeBehind15 (v0 : Nat) (v1 : Int32) (σ : St) : Option (St) :=
  if ¬ v1 = 175 then
    if v1 < 128 then
      nm (s2 σ v0 3 0) fun σ1 =>
      some σ1
    else
      if 144 ≤ v1 then
        nm (s2 σ v0 3 0) fun σ2 =>
        some σ2
      else
        cv (Reader_expectBranch v0 (v1 - 128) 4 σ) fun σ3 =>
        some σ3
  else
    cv (Reader_expectOperand v0 2 11 0 σ) fun σ4 =>
    some σ4
def Reader_take (v0 : Nat) (σ : St) : Option (Int32 × St) :=
  nm (σ v0 2) fun x1 =>
  nm (s2 σ v0 2 ((σ v0 2) + 1)) fun σ2 =>
  if x1 < 0 then
    nm (s2 σ2 v0 3 0) fun σ3 =>
    some (0, σ3)
  else
    if x1 < (σ2 (ch v0 1) 2) then
      ld σ2 (ch (ch v0 1) 0) 1100 x1 fun x4 =>
      some (x4, σ2)
    else
      nm (s2 σ2 v0 3 0) fun σ5 =>
      some (0, σ5)
def Reader_takeNumber (v0 : Nat) (v1 : Int32) (σ : St) : Option (Int32 × St) :=
  if ¬ v1 = 0 then
    cl (Reader_take v0 σ) fun x2 σ1 =>
    if ¬ v1 = 1 then
      if ¬ v1 = 4 then
        some (x2, σ1)
      else
        cl (Reader_take v0 σ1) fun x4 σ3 =>
        nm (x2 ||| (shl x4 8)) fun x5 =>
        cl (Reader_take v0 σ3) fun x7 σ6 =>
        nm (x5 ||| (shl x7 16)) fun x8 =>
        cl (Reader_take v0 σ6) fun x10 σ9 =>
        nm (x8 ||| (shl x10 24)) fun x11 =>
        some (x11, σ9)
    else
      some (i2b x2, σ1)
  else
    some (0, σ)
def Reader_takeOperand_B145 (v0 : Nat) (v2 : Int32) (v4 : Int32) (v5 : Int32) (v6 : Int32) (t0 : Nat) (t1 : Int32) (σ : St) : Option (St) :=
  nm (s2 σ t0 3 ((t1 + (16 * v4)) + (256 * v5))) fun σ1 =>
  if ¬ v2 = 0 then
    if ¬ v2 = 1 then
      nm (s2 σ1 v0 6 4) fun σ2 =>
      some σ2
    else
      nm (s2 σ1 v0 6 1) fun σ3 =>
      some σ3
  else
    if v6 = 0 then
      some σ1
    else
      if ¬ v2 = 1 then
        nm (s2 σ1 v0 6 4) fun σ4 =>
        some σ4
      else
        nm (s2 σ1 v0 6 1) fun σ5 =>
        some σ5
def Reader_takeOperand_B39 (v0 : Nat) (v2 : Int32) (t0 : Nat) (t1 : Int32) (σ : St) : Option (St) :=
  zb t1 <|
  nm (s2 σ t0 7 t1) fun σ1 =>
  nm (s2 σ1 v0 6 0) fun σ2 =>
  if (σ2 v0 7) = 0 then
    nm (σ2 v0 9) fun x3 =>
    if ¬ (σ2 v0 9) = 4 then
      if ¬ v2 = 0 then
        Reader_takeOperand_B145 v0 v2 8 0 0 (ch v0 0) x3 σ2
      else
        if ¬ x3 = 5 then
          Reader_takeOperand_B145 v0 v2 8 0 0 (ch v0 0) x3 σ2
        else
          Reader_takeOperand_B145 v0 v2 8 0 1 (ch v0 0) 8 σ2
    else
      cl (Reader_take v0 σ2) fun x5 σ4 =>
      nm (x5 &&& 7) fun x6 =>
      if ((shr x5 3) &&& 7) = 4 then
        if ¬ v2 = 0 then
          Reader_takeOperand_B145 v0 v2 8 0 0 (ch v0 0) x6 σ4
        else
          if ¬ x6 = 5 then
            Reader_takeOperand_B145 v0 v2 8 0 0 (ch v0 0) x6 σ4
          else
            Reader_takeOperand_B145 v0 v2 8 0 1 (ch v0 0) 8 σ4
      else
        nm ((shr x5 3) &&& 7) fun x7 =>
        nm (shr x5 6) fun x8 =>
        if ¬ v2 = 0 then
          Reader_takeOperand_B145 v0 v2 x7 x8 0 (ch v0 0) x6 σ4
        else
          if ¬ x6 = 5 then
            Reader_takeOperand_B145 v0 v2 x7 x8 0 (ch v0 0) x6 σ4
          else
            Reader_takeOperand_B145 v0 v2 x7 x8 1 (ch v0 0) 8 σ4
  else
    some σ2
def Reader_takeOperand (v0 : Nat) (σ : St) : Option (St) :=
  cl (Reader_take v0 σ) fun x2 σ1 =>
  nm (shr x2 6) fun x3 =>
  nm (s2 σ1 v0 8 ((shr x2 3) &&& 7)) fun σ4 =>
  nm (s2 σ4 v0 9 (x2 &&& 7)) fun σ5 =>
  if ¬ x3 = 3 then
    Reader_takeOperand_B39 v0 x3 v0 0 σ5
  else
    Reader_takeOperand_B39 v0 x3 v0 1 σ5
def Reader_read_B91 (v0 : Nat) (v1 : Int32) (σ : St) : Option (Int32 × St) :=
  cl (Reader_takeNumber v0 (σ v0 5) σ) fun x2 σ1 =>
  nm (s2 σ1 (ch v0 0) 5 x2) fun σ3 =>
  nm (s2 σ3 (ch v0 0) 6 ((σ3 v0 2) - v1)) fun σ4 =>
  zb (σ4 v0 3) <|
  some (σ4 v0 3, σ4)
def Reader_read_B60 (v0 : Nat) (v1 : Int32) (v2 : Int32) (σ : St) : Option (Int32 × St) :=
  if (σ v0 4) = 0 then
    Reader_read_B91 v0 v1 σ
  else
    cv (Reader_takeOperand v0 σ) fun σ1 =>
    cv (Reader_giveForm v0 v2 σ1) fun σ2 =>
    cl (Reader_takeNumber v0 (σ2 v0 6) σ2) fun x4 σ3 =>
    nm (s2 σ3 (ch v0 0) 4 x4) fun σ5 =>
    Reader_read_B91 v0 v1 σ5
def Reader_read (v0 : Nat) (v1 : Int32) (σ : St) : Option (Int32 × St) :=
  nm (s2 σ v0 2 v1) fun σ1 =>
  nm (s2 σ1 v0 3 1) fun σ2 =>
  nm (s2 σ2 v0 4 0) fun σ3 =>
  nm (s2 σ3 v0 5 0) fun σ4 =>
  cv (Instruction_fill (ch v0 0) 0 0 0 0 0 0 σ4) fun σ5 =>
  cl (Reader_take v0 σ5) fun x7 σ6 =>
  if ¬ x7 = 15 then
    cv (Reader_shape v0 x7 σ6) fun σ8 =>
    Reader_read_B60 v0 v1 x7 σ8
  else
    cl (Reader_take v0 σ6) fun x10 σ9 =>
    cv (Reader_shapeBehind15 v0 x10 σ9) fun σ11 =>
    Reader_read_B60 v0 v1 x7 σ11
def Policy_faultOfFound_B57 (v0 : Nat) (v2 : Int32) (v3 : Int32) (v4 : Int32) (v5 : Int32) (σ : St) : Option (Int32 × St) :=
  if v3 = (σ (ch (ch v0 2) 0) 2) then
    if v4 = 26 then
      if v5 = v2 then
        some (0, σ)
      else
        some (5, σ)
    else
      if ¬ v4 = 28 then
        some (0, σ)
      else
        if v5 = v2 then
          some (0, σ)
        else
          some (5, σ)
  else
    some (4, σ)
def Policy_faultOfFound (v0 : Nat) (v1 : Int32) (v2 : Int32) (v3 : Int32) (σ : St) : Option (Int32 × St) :=
  nm (σ (ch (ch v0 2) 0) 0) fun x1 =>
  if ¬ x1 = 23 then
    nm (v1 + (σ (ch (ch v0 2) 0) 6)) fun x2 =>
    if x2 ≤ v2 then
      if x1 = 27 then
        Policy_faultOfFound_B57 v0 v2 v3 x1 x2 σ
      else
        if ¬ x1 = 28 then
          if x1 = 26 then
            if x2 = v2 then
              some (0, σ)
            else
              some (5, σ)
          else
            if ¬ x1 = 28 then
              some (0, σ)
            else
              if x2 = v2 then
                some (0, σ)
              else
                some (5, σ)
        else
          Policy_faultOfFound_B57 v0 v2 v3 x1 x2 σ
    else
      some (3, σ)
  else
    some (2, σ)
def Policy_maskedRegister (v0 : Nat) (v1 : Int32) (σ : St) : Option (Int32 × St) :=
  cl (Strip_byteAt (ch v0 1) v1 σ) fun x2 σ1 =>
  if ¬ x2 = 131 then
    some ((-1), σ1)
  else
    if ¬ (σ1 (ch (ch v0 2) 0) 0) = 4 then
      some ((-1), σ1)
    else
      if ¬ (σ1 (ch (ch v0 2) 0) 1) = 5 then
        some ((-1), σ1)
      else
        if ¬ (σ1 (ch (ch v0 2) 0) 5) = (-16) then
          some ((-1), σ1)
        else
          some (σ1 (ch (ch v0 2) 0) 2, σ1)
def Policy_bundleFault_B114 (K7 : Nat → Int32 → Int32 → Int32 → Int32 → St → Option (Int32 × St)) (v0 : Nat) (v1 : Int32) (v2 : Int32) (v4 : Int32) (t0 : Nat) (t1 : Int32) (t2 : Int32) (σ : St) : Option (Int32 × St) :=
  cv (Strip_mark t0 t1 t2 σ) fun σ1 =>
  cl (Policy_maskedRegister v0 v2 σ1) fun x3 σ2 =>
  nm (v2 + (σ2 (ch (ch v0 2) 0) 6)) fun x4 =>
  nm (v4 + 1) fun x5 =>
  K7 v0 v1 x4 x3 x5 σ2
def Policy_bundleFault_B97 (K7 : Nat → Int32 → Int32 → Int32 → Int32 → St → Option (Int32 × St)) (v0 : Nat) (v1 : Int32) (v2 : Int32) (v4 : Int32) (t0 : Int32) (σ : St) : Option (Int32 × St) :=
  if t0 = 0 then
    Policy_bundleFault_B114 K7 v0 v1 v2 v4 (ch v0 1) v2 1 σ
  else
    Policy_bundleFault_B114 K7 v0 v1 v2 v4 (ch v0 1) v2 2 σ
def Policy_bundleFault_B47 (K7 : Nat → Int32 → Int32 → Int32 → Int32 → St → Option (Int32 × St)) (v0 : Nat) (v1 : Int32) (v2 : Int32) (v4 : Int32) (t0 : Int32) (σ : St) : Option (Int32 × St) :=
  if t0 = 0 then
    if (σ (ch (ch v0 2) 0) 0) = 27 then
      Policy_bundleFault_B97 K7 v0 v1 v2 v4 1 σ
    else
      if ¬ (σ (ch (ch v0 2) 0) 0) = 28 then
        Policy_bundleFault_B97 K7 v0 v1 v2 v4 0 σ
      else
        Policy_bundleFault_B97 K7 v0 v1 v2 v4 1 σ
  else
    nm (s2 σ v0 0 v2) fun σ1 =>
    some (t0, σ1)
def Policy_bundleFault_B7 : Nat → Nat → Int32 → Int32 → Int32 → Int32 → St → Option (Int32 × St)
  | 0, _, _, _, _, _, _ => none
  | n + 1, v0, v1, v2, v3, v4, σ =>
    if 16 ≤ v4 then
      some (0, σ)
    else
      if (v1 + 16) ≤ v2 then
        some (0, σ)
      else
        cl (Reader_read (ch v0 2) v2 σ) fun x2 σ1 =>
        if x2 = 0 then
          Policy_bundleFault_B47 (Policy_bundleFault_B7 n) v0 v1 v2 v4 2 σ1
        else
          cl (Policy_faultOfFound v0 v2 (v1 + 16) v3 σ1) fun x4 σ3 =>
          Policy_bundleFault_B47 (Policy_bundleFault_B7 n) v0 v1 v2 v4 x4 σ3
def Policy_bundleFault (v0 : Nat) (v1 : Int32) (σ : St) : Option (Int32 × St) :=
  Policy_bundleFault_B7 FU v0 v1 v1 (-1) 0 σ
def House_isService (v0 : Int32) (σ : St) : Option (Int32 × St) :=
  if v0 < 0 then
    some (0, σ)
  else
    if 48 < v0 then
      some (0, σ)
    else
      if ¬ (rem v0 16) = 0 then
        some (0, σ)
      else
        some (1, σ)
def Policy_isAstray_B31 (v0 : Nat) (v1 : Int32) (σ : St) : Option (Int32 × St) :=
  nm (((256 + v1) + (σ (ch (ch v0 2) 0) 6)) + (σ (ch (ch v0 2) 0) 5)) fun x1 =>
  cl (House_isService x1 σ) fun x3 σ2 =>
  if ¬ x3 = 0 then
    some (0, σ2)
  else
    cl (Strip_markAt (ch v0 1) (x1 - 256) σ2) fun x5 σ4 =>
    if x5 = 1 then
      some (0, σ4)
    else
      some (1, σ4)
def Policy_isAstray (v0 : Nat) (v1 : Int32) (σ : St) : Option (Int32 × St) :=
  nm (σ (ch (ch v0 2) 0) 0) fun x1 =>
  if x1 = 24 then
    Policy_isAstray_B31 v0 v1 σ
  else
    if x1 = 25 then
      Policy_isAstray_B31 v0 v1 σ
    else
      if x1 = 26 then
        Policy_isAstray_B31 v0 v1 σ
      else
        some (0, σ)
def Policy_targetFault_B2 : Nat → Nat → Int32 → St → Option (Int32 × St)
  | 0, _, _, _ => none
  | n + 1, v0, v1, σ =>
    if (σ (ch v0 1) 2) ≤ v1 then
      some (0, σ)
    else
      cl (Strip_markAt (ch v0 1) v1 σ) fun x2 σ1 =>
      if x2 = 0 then
        nm (v1 + 1) fun x3 =>
        Policy_targetFault_B2 n v0 x3 σ1
      else
        cl (Reader_read (ch v0 2) v1 σ1) fun x5 σ4 =>
        if x5 = 0 then
          nm (v1 + 1) fun x6 =>
          Policy_targetFault_B2 n v0 x6 σ4
        else
          cl (Policy_isAstray v0 v1 σ4) fun x8 σ7 =>
          if x8 = 0 then
            nm (v1 + 1) fun x9 =>
            Policy_targetFault_B2 n v0 x9 σ7
          else
            nm (s2 σ7 v0 0 v1) fun σ10 =>
            some (6, σ10)
def Policy_targetFault (v0 : Nat) (σ : St) : Option (Int32 × St) :=
  Policy_targetFault_B2 FU v0 0 σ
def Policy_findFault_B49 : Nat → Nat → Int32 → Int32 → St → Option (Int32 × St)
  | 0, _, _, _, _ => none
  | n + 1, v0, v1, v2, σ =>
    if v1 ≤ v2 then
      cl (Policy_targetFault v0 σ) fun x2 σ1 =>
      some (x2, σ1)
    else
      cl (Policy_bundleFault v0 v2 σ) fun x4 σ3 =>
      if x4 = 0 then
        nm (v2 + 16) fun x5 =>
        Policy_findFault_B49 n v0 v1 x5 σ3
      else
        some (x4, σ3)
def Policy_findFault (v0 : Nat) (σ : St) : Option (Int32 × St) :=
  nm (σ (ch v0 1) 2) fun x1 =>
  nm (s2 σ v0 0 (-1)) fun σ2 =>
  if x1 < 16 then
    nm (s2 σ2 v0 0 x1) fun σ3 =>
    some (1, σ3)
  else
    if 1024 < x1 then
      nm (s2 σ2 v0 0 x1) fun σ4 =>
      some (1, σ4)
    else
      if (rem x1 16) = 0 then
        cv (Strip_dropMarks (ch v0 1) σ2) fun σ5 =>
        Policy_findFault_B49 FU v0 x1 0 σ5
      else
        nm (s2 σ2 v0 0 x1) fun σ6 =>
        some (1, σ6)
def Program_isFull (v0 : Nat) (σ : St) : Option (Int32 × St) :=
  if (σ v0 4) < 120 then
    some (0, σ)
  else
    some (1, σ)
def Program_addPlain (v0 : Nat) (v1 : Int32) (v2 : Int32) (v3 : Int32) (v4 : Int32) (v5 : Int32) (v6 : Int32) (σ : St) : Option (St) :=
  cl (Program_isFull v0 σ) fun x2 σ1 =>
  if x2 = 0 then
    sa σ1 (ch v0 0) 120 (σ1 v0 4) 9 fun σ3 =>
    sa σ3 (ch v0 6) 120 (σ3 v0 4) v1 fun σ4 =>
    sa σ4 (ch v0 7) 120 (σ4 v0 4) v2 fun σ5 =>
    sa σ5 (ch v0 8) 120 (σ5 v0 4) v3 fun σ6 =>
    sa σ6 (ch v0 9) 120 (σ6 v0 4) v4 fun σ7 =>
    sa σ7 (ch v0 10) 120 (σ7 v0 4) v5 fun σ8 =>
    sa σ8 (ch v0 11) 120 (σ8 v0 4) v6 fun σ9 =>
    nm (s2 σ9 v0 4 ((σ9 v0 4) + 1)) fun σ10 =>
    some σ10
  else
    some σ1
def Program_addFlow (v0 : Nat) (v1 : Int32) (v2 : Int32) (v3 : Int32) (σ : St) : Option (St) :=
  cl (Program_isFull v0 σ) fun x2 σ1 =>
  if x2 = 0 then
    sa σ1 (ch v0 0) 120 (σ1 v0 4) v1 fun σ3 =>
    sa σ3 (ch v0 1) 120 (σ3 v0 4) v2 fun σ4 =>
    sa σ4 (ch v0 2) 120 (σ4 v0 4) v3 fun σ5 =>
    nm (s2 σ5 v0 4 ((σ5 v0 4) + 1)) fun σ6 =>
    some σ6
  else
    some σ1
def Program_copyFrom (v0 : Nat) (v1 : Nat) (σ : St) : Option (St) :=
  cp σ (ch v1 0) 120 0 (ch v0 0) 120 0 120 fun σ1 =>
  cp σ1 (ch v1 1) 120 0 (ch v0 1) 120 0 120 fun σ2 =>
  cp σ2 (ch v1 2) 120 0 (ch v0 2) 120 0 120 fun σ3 =>
  cp σ3 (ch v1 6) 120 0 (ch v0 6) 120 0 120 fun σ4 =>
  cp σ4 (ch v1 7) 120 0 (ch v0 7) 120 0 120 fun σ5 =>
  cp σ5 (ch v1 8) 120 0 (ch v0 8) 120 0 120 fun σ6 =>
  cp σ6 (ch v1 9) 120 0 (ch v0 9) 120 0 120 fun σ7 =>
  cp σ7 (ch v1 10) 120 0 (ch v0 10) 120 0 120 fun σ8 =>
  cp σ8 (ch v1 11) 120 0 (ch v0 11) 120 0 120 fun σ9 =>
  cp σ9 (ch v1 3) 120 0 (ch v0 3) 120 0 120 fun σ10 =>
  cp σ10 (ch v1 12) 40 0 (ch v0 12) 40 0 40 fun σ11 =>
  cp σ11 (ch v1 13) 64 0 (ch v0 13) 64 0 64 fun σ12 =>
  nm (s2 σ12 v0 4 (σ12 v1 4)) fun σ13 =>
  nm (s2 σ13 v0 5 (σ13 v1 5)) fun σ14 =>
  some σ14
def Program_hasItem (v0 : Nat) (v1 : Int32) (σ : St) : Option (Int32 × St) :=
  if v1 < 0 then
    some (0, σ)
  else
    if (σ v0 4) ≤ v1 then
      some (0, σ)
    else
      if 120 ≤ v1 then
        some (0, σ)
      else
        some (1, σ)
def Program_loadItem (v0 : Nat) (v1 : Int32) (v2 : Nat) (σ : St) : Option (St) :=
  cl (Program_hasItem v0 v1 σ) fun x2 σ1 =>
  if x2 = 0 then
    some σ1
  else
    ld σ1 (ch v0 6) 120 v1 fun x3 =>
    ld σ1 (ch v0 7) 120 v1 fun x4 =>
    ld σ1 (ch v0 8) 120 v1 fun x5 =>
    ld σ1 (ch v0 9) 120 v1 fun x6 =>
    ld σ1 (ch v0 10) 120 v1 fun x7 =>
    ld σ1 (ch v0 11) 120 v1 fun x8 =>
    cv (Instruction_fill v2 x3 x4 x5 x6 x7 x8 σ1) fun σ9 =>
    some σ9
def Program_itemPlace (v0 : Nat) (v1 : Int32) (σ : St) : Option (Int32 × St) :=
  cl (Program_hasItem v0 v1 σ) fun x2 σ1 =>
  if x2 = 0 then
    some ((-1), σ1)
  else
    ld σ1 (ch v0 3) 120 v1 fun x3 =>
    some (x3, σ1)
def House_isLabel (v0 : Int32) (σ : St) : Option (Int32 × St) :=
  if v0 < 0 then
    some (0, σ)
  else
    if 40 ≤ v0 then
      some (0, σ)
    else
      some (1, σ)
def Program_labelItem (v0 : Nat) (v1 : Int32) (σ : St) : Option (Int32 × St) :=
  cl (House_isLabel v1 σ) fun x2 σ1 =>
  if x2 = 0 then
    some ((-1), σ1)
  else
    ld σ1 (ch v0 12) 40 v1 fun x3 =>
    some (x3, σ1)
def Program_isMarked (v0 : Nat) (v1 : Int32) (σ : St) : Option (Int32 × St) :=
  cl (Program_hasItem v0 v1 σ) fun x2 σ1 =>
  if x2 = 0 then
    some (0, σ1)
  else
    ld σ1 (ch v0 0) 120 v1 fun x3 =>
    if ¬ x3 = 0 then
      some (0, σ1)
    else
      ld σ1 (ch v0 2) 120 v1 fun x4 =>
      if ¬ x4 = 1 then
        some (0, σ1)
      else
        some (1, σ1)
def Program_pushes (v0 : Nat) (v1 : Int32) (σ : St) : Option (Int32 × St) :=
  cl (Program_hasItem v0 v1 σ) fun x2 σ1 =>
  if x2 = 0 then
    some (0, σ1)
  else
    ld σ1 (ch v0 0) 120 v1 fun x3 =>
    if x3 = 3 then
      some (1, σ1)
    else
      ld σ1 (ch v0 0) 120 v1 fun x4 =>
      if x4 = 4 then
        some (1, σ1)
      else
        ld σ1 (ch v0 0) 120 v1 fun x5 =>
        if ¬ x5 = 6 then
          some (0, σ1)
        else
          some (1, σ1)
def Program_findLabels_B23 : Nat → Nat → Int32 → St → Option (St)
  | 0, _, _, _ => none
  | n + 1, v0, v1, σ =>
    if (σ v0 4) ≤ v1 then
      some σ
    else
      cl (Program_hasItem v0 v1 σ) fun x2 σ1 =>
      if x2 = 0 then
        nm (v1 + 1) fun x3 =>
        Program_findLabels_B23 n v0 x3 σ1
      else
        ld σ1 (ch v0 0) 120 v1 fun x4 =>
        if ¬ x4 = 0 then
          nm (v1 + 1) fun x5 =>
          Program_findLabels_B23 n v0 x5 σ1
        else
          ld σ1 (ch v0 1) 120 v1 fun x6 =>
          cl (House_isLabel x6 σ1) fun x8 σ7 =>
          if x8 = 0 then
            nm (v1 + 1) fun x9 =>
            Program_findLabels_B23 n v0 x9 σ7
          else
            ld σ7 (ch v0 1) 120 v1 fun x10 =>
            ld σ7 (ch v0 12) 40 x10 fun x11 =>
            if ¬ x11 = (-1) then
              nm (v1 + 1) fun x12 =>
              Program_findLabels_B23 n v0 x12 σ7
            else
              ld σ7 (ch v0 1) 120 v1 fun x13 =>
              sa σ7 (ch v0 12) 40 x13 v1 fun σ14 =>
              nm (v1 + 1) fun x15 =>
              Program_findLabels_B23 n v0 x15 σ14
def Program_findLabels_B2 : Nat → Nat → Int32 → St → Option (St)
  | 0, _, _, _ => none
  | n + 1, v0, v1, σ =>
    if 40 ≤ v1 then
      Program_findLabels_B23 FU v0 0 σ
    else
      sa σ (ch v0 12) 40 v1 (-1) fun σ1 =>
      nm (v1 + 1) fun x2 =>
      Program_findLabels_B2 n v0 x2 σ1
def Program_findLabels (v0 : Nat) (σ : St) : Option (St) :=
  Program_findLabels_B2 FU v0 0 σ
def Program_giveLanding (v0 : Nat) (v1 : Int32) (v2 : Int32) (σ : St) : Option (St) :=
  nm (v1 / 16) fun x1 =>
  if x1 < 0 then
    some σ
  else
    if 64 ≤ x1 then
      some σ
    else
      sa σ (ch v0 13) 64 x1 v2 fun σ2 =>
      some σ2
def Program_findLandings_B24 : Nat → Nat → Int32 → St → Option (St)
  | 0, _, _, _ => none
  | n + 1, v0, v1, σ =>
    if (σ v0 4) ≤ v1 then
      some σ
    else
      cl (Program_isMarked v0 v1 σ) fun x2 σ1 =>
      if x2 = 0 then
        cl (Program_pushes v0 v1 σ1) fun x4 σ3 =>
        if x4 = 0 then
          nm (v1 + 1) fun x5 =>
          Program_findLandings_B24 n v0 x5 σ3
        else
          cl (Program_itemPlace v0 v1 σ3) fun x7 σ6 =>
          cv (Program_giveLanding v0 (x7 + 5) (v1 + 1) σ6) fun σ8 =>
          nm (v1 + 1) fun x9 =>
          Program_findLandings_B24 n v0 x9 σ8
      else
        cl (Program_itemPlace v0 v1 σ1) fun x11 σ10 =>
        cv (Program_giveLanding v0 x11 v1 σ10) fun σ12 =>
        nm (v1 + 1) fun x13 =>
        Program_findLandings_B24 n v0 x13 σ12
def Program_findLandings_B2 : Nat → Nat → Int32 → St → Option (St)
  | 0, _, _, _ => none
  | n + 1, v0, v1, σ =>
    if 64 ≤ v1 then
      Program_findLandings_B24 FU v0 0 σ
    else
      sa σ (ch v0 13) 64 v1 (-100) fun σ1 =>
      nm (v1 + 1) fun x2 =>
      Program_findLandings_B2 n v0 x2 σ1
def Program_findLandings (v0 : Nat) (σ : St) : Option (St) :=
  Program_findLandings_B2 FU v0 0 σ
def Program_landingAt (v0 : Nat) (v1 : Int32) (σ : St) : Option (Int32 × St) :=
  cl (House_isService v1 σ) fun x2 σ1 =>
  if x2 = 0 then
    nm ((v1 - 256) / 16) fun x3 =>
    if v1 < 256 then
      some ((-100), σ1)
    else
      if ¬ (rem v1 16) = 0 then
        some ((-100), σ1)
      else
        if x3 < 0 then
          some ((-100), σ1)
        else
          if x3 < 64 then
            ld σ1 (ch v0 13) 64 x3 fun x4 =>
            some (x4, σ1)
          else
            some ((-100), σ1)
  else
    some ((-1) - (v1 / 16), σ1)
def Program_pastLabels_B6 : Nat → Nat → Int32 → St → Option (Int32 × St)
  | 0, _, _, _ => none
  | n + 1, v0, v2, σ =>
    if (σ v0 4) ≤ v2 then
      some (v2, σ)
    else
      if 120 ≤ v2 then
        some (v2, σ)
      else
        ld σ (ch v0 0) 120 v2 fun x1 =>
        if ¬ x1 = 0 then
          some (v2, σ)
        else
          nm (v2 + 1) fun x2 =>
          Program_pastLabels_B6 n v0 x2 σ
def Program_pastLabels (v0 : Nat) (v1 : Int32) (σ : St) : Option (Int32 × St) :=
  nm (mx v1 0) fun x1 =>
  Program_pastLabels_B6 FU v0 x1 σ
def Program_addressOf (v0 : Nat) (v1 : Int32) (σ : St) : Option (Int32 × St) :=
  if 0 ≤ v1 then
    cl (Program_hasItem v0 v1 σ) fun x2 σ1 =>
    if x2 = 0 then
      some (256 + (σ1 v0 5), σ1)
    else
      ld σ1 (ch v0 3) 120 v1 fun x3 =>
      some (256 + x3, σ1)
  else
    some (((-1) - v1) * 16, σ)
def Piece_put (v0 : Nat) (v1 : Int32) (σ : St) : Option (St) :=
  if 16 ≤ (σ v0 1) then
    some σ
  else
    sa σ (ch v0 0) 16 (σ v0 1) (v1 &&& 255) fun σ1 =>
    nm (s2 σ1 v0 1 ((σ1 v0 1) + 1)) fun σ2 =>
    some σ2
def Piece_putFour (v0 : Nat) (v1 : Int32) (σ : St) : Option (St) :=
  cv (Piece_put v0 v1 σ) fun σ1 =>
  cv (Piece_put v0 (shr v1 8) σ1) fun σ2 =>
  cv (Piece_put v0 (shr v1 16) σ2) fun σ3 =>
  cv (Piece_put v0 (shr v1 24) σ3) fun σ4 =>
  some σ4
def Piece_hasOperand (v0 : Nat) (σ : St) : Option (Int32 × St) :=
  if ¬ (σ v0 1) = 1 then
    if (σ v0 1) = 0 then
      some (0, σ)
    else
      if (σ v0 1) = 8 then
        some (0, σ)
      else
        if ¬ (σ v0 1) = 5 then
          some (1, σ)
        else
          if (σ v0 0) = 8 then
            some (0, σ)
          else
            some (1, σ)
  else
    if (σ v0 0) = 12 then
      some (1, σ)
    else
      if ¬ (σ v0 0) = 13 then
        some (0, σ)
      else
        some (1, σ)
def House_isSmall (v0 : Int32) (σ : St) : Option (Int32 × St) :=
  if v0 < (-128) then
    some (0, σ)
  else
    if 127 < v0 then
      some (0, σ)
    else
      some (1, σ)
def Piece_putArithmeticLead_B17 (v0 : Nat) (v1 : Nat) (σ : St) : Option (St) :=
  cl (House_isSmall (σ v1 5) σ) fun x2 σ1 =>
  if x2 = 0 then
    cv (Piece_put v0 129 σ1) fun σ3 =>
    some σ3
  else
    cv (Piece_put v0 131 σ1) fun σ4 =>
    some σ4
def Piece_putArithmeticLead (v0 : Nat) (v1 : Nat) (σ : St) : Option (St) :=
  if (σ v1 1) = 5 then
    Piece_putArithmeticLead_B17 v0 v1 σ
  else
    if ¬ (σ v1 1) = 6 then
      if ¬ (σ v1 1) = 3 then
        cv (Piece_put v0 ((8 * (σ v1 0)) + 1) σ) fun σ1 =>
        some σ1
      else
        cv (Piece_put v0 ((8 * (σ v1 0)) + 3) σ) fun σ2 =>
        some σ2
    else
      Piece_putArithmeticLead_B17 v0 v1 σ
def Piece_putMovLead (v0 : Nat) (v1 : Nat) (σ : St) : Option (St) :=
  if ¬ (σ v1 1) = 5 then
    if ¬ (σ v1 1) = 6 then
      if ¬ (σ v1 1) = 3 then
        cv (Piece_put v0 137 σ) fun σ1 =>
        some σ1
      else
        cv (Piece_put v0 139 σ) fun σ2 =>
        some σ2
    else
      cv (Piece_put v0 199 σ) fun σ3 =>
      some σ3
  else
    cv (Piece_put v0 (184 + (σ v1 2)) σ) fun σ4 =>
    some σ4
def Piece_putLead_B144 (v0 : Nat) (v1 : Nat) (σ : St) : Option (St) :=
  cv (Piece_put v0 ((64 + (8 * ((σ v1 0) - 17))) + (σ v1 2)) σ) fun σ1 =>
  some σ1
def Piece_putLead (v0 : Nat) (v1 : Nat) (σ : St) : Option (St) :=
  nm (σ v1 0) fun x1 =>
  if x1 = 8 then
    cv (Piece_putMovLead v0 v1 σ) fun σ2 =>
    some σ2
  else
  if x1 = 9 then
    cv (Piece_put v0 133 σ) fun σ3 =>
    some σ3
  else
  if x1 = 10 then
    cv (Piece_put v0 141 σ) fun σ4 =>
    some σ4
  else
  if x1 = 11 then
    cv (Piece_put v0 15 σ) fun σ5 =>
    cv (Piece_put v0 175 σ5) fun σ6 =>
    some σ6
  else
  if x1 = 12 then
    cv (Piece_put v0 247 σ) fun σ7 =>
    some σ7
  else
  if x1 = 13 then
    cv (Piece_put v0 247 σ) fun σ8 =>
    some σ8
  else
  if x1 = 14 then
    cv (Piece_put v0 193 σ) fun σ9 =>
    some σ9
  else
  if x1 = 15 then
    cv (Piece_put v0 193 σ) fun σ10 =>
    some σ10
  else
  if x1 = 16 then
    cv (Piece_put v0 193 σ) fun σ11 =>
    some σ11
  else
  if x1 = 17 then
    Piece_putLead_B144 v0 v1 σ
  else
  if x1 = 18 then
    Piece_putLead_B144 v0 v1 σ
  else
  if x1 = 19 then
    if ¬ (σ v1 1) = 1 then
      cl (House_isSmall (σ v1 5) σ) fun x13 σ12 =>
      if x13 = 0 then
        cv (Piece_put v0 104 σ12) fun σ14 =>
        some σ14
      else
        cv (Piece_put v0 106 σ12) fun σ15 =>
        some σ15
    else
      cv (Piece_put v0 (80 + (σ v1 2)) σ) fun σ16 =>
      some σ16
  else
  if x1 = 20 then
    Piece_putLead_B144 v0 v1 σ
  else
  if x1 = 21 then
    cv (Piece_put v0 144 σ) fun σ17 =>
    some σ17
  else
  if x1 = 22 then
    cv (Piece_put v0 244 σ) fun σ18 =>
    some σ18
  else
  cv (Piece_putArithmeticLead v0 v1 σ) fun σ19 =>
  some σ19
def House_isMemoryForm (v0 : Int32) (σ : St) : Option (Int32 × St) :=
  if v0 = 3 then
    some (1, σ)
  else
    if v0 = 4 then
      some (1, σ)
    else
      if v0 = 6 then
        some (1, σ)
      else
        if ¬ v0 = 7 then
          some (0, σ)
        else
          some (1, σ)
def Piece_middleOf (v0 : Nat) (σ : St) : Option (Int32 × St) :=
  if ¬ (σ v0 1) = 2 then
    if (σ v0 1) = 3 then
      some (σ v0 2, σ)
    else
      if ¬ (σ v0 1) = 4 then
        nm (σ v0 0) fun x1 =>
        if x1 = 8 then
          some (0, σ)
        else
        if x1 = 9 then
          some (σ v0 0, σ)
        else
        if x1 = 10 then
          some (σ v0 0, σ)
        else
        if x1 = 11 then
          some (σ v0 0, σ)
        else
        if x1 = 12 then
          some (2, σ)
        else
        if x1 = 13 then
          some (3, σ)
        else
        if x1 = 14 then
          some (4, σ)
        else
        if x1 = 15 then
          some (5, σ)
        else
        if x1 = 16 then
          some (7, σ)
        else
        some (σ v0 0, σ)
      else
        some (σ v0 2, σ)
  else
    if ¬ (σ v0 0) = 11 then
      some (σ v0 3, σ)
    else
      some (σ v0 2, σ)
def Piece_putOperand_B215 (v0 : Nat) (v1 : Nat) (v4 : Int32) (v6 : Int32) (σ : St) : Option (St) :=
  if ¬ v4 = 0 then
    cv (Piece_putFour v0 (σ v1 4) σ) fun σ1 =>
    some σ1
  else
    if ¬ v6 = 2 then
      if ¬ v6 = 1 then
        some σ
      else
        cv (Piece_put v0 (σ v1 4) σ) fun σ2 =>
        some σ2
    else
      cv (Piece_putFour v0 (σ v1 4) σ) fun σ3 =>
      some σ3
def Piece_putOperand_B163 (v0 : Nat) (v1 : Nat) (v2 : Int32) (v3 : Int32) (v4 : Int32) (v5 : Int32) (v6 : Int32) (σ : St) : Option (St) :=
  cv (Piece_put v0 (((64 * v6) + v2) + 4) σ) fun σ1 =>
  cl (Instruction_scale v1 σ1) fun x3 σ2 =>
  if v5 = 0 then
    cl (Instruction_index v1 σ2) fun x5 σ4 =>
    if v4 = 0 then
      cv (Piece_put v0 (((64 * x3) + (8 * x5)) + v3) σ4) fun σ6 =>
      Piece_putOperand_B215 v0 v1 v4 v6 σ6
    else
      cv (Piece_put v0 (((64 * x3) + (8 * x5)) + 5) σ4) fun σ7 =>
      Piece_putOperand_B215 v0 v1 v4 v6 σ7
  else
    if v4 = 0 then
      cv (Piece_put v0 (((64 * x3) + (8 * 4)) + v3) σ2) fun σ8 =>
      Piece_putOperand_B215 v0 v1 v4 v6 σ8
    else
      cv (Piece_put v0 (((64 * x3) + (8 * 4)) + 5) σ2) fun σ9 =>
      Piece_putOperand_B215 v0 v1 v4 v6 σ9
def Piece_putOperand_B128 (v0 : Nat) (v1 : Nat) (v2 : Int32) (v3 : Int32) (v4 : Int32) (v5 : Int32) (v6 : Int32) (σ : St) : Option (St) :=
  if v5 = 0 then
    Piece_putOperand_B163 v0 v1 v2 v3 v4 v5 v6 σ
  else
    if v3 = 4 then
      Piece_putOperand_B163 v0 v1 v2 v3 v4 v5 v6 σ
    else
      if v4 = 0 then
        cv (Piece_put v0 (((64 * v6) + v2) + v3) σ) fun σ1 =>
        Piece_putOperand_B215 v0 v1 v4 v6 σ1
      else
        cv (Piece_put v0 (((64 * v6) + v2) + 5) σ) fun σ2 =>
        Piece_putOperand_B215 v0 v1 v4 v6 σ2
def Piece_putOperand_B106 (v0 : Nat) (v1 : Nat) (v2 : Int32) (v3 : Int32) (v4 : Int32) (v5 : Int32) (t0 : Int32) (σ : St) : Option (St) :=
  if ¬ v4 = 0 then
    Piece_putOperand_B128 v0 v1 v2 v3 v4 v5 0 σ
  else
    if ¬ (σ v1 4) = 0 then
      Piece_putOperand_B128 v0 v1 v2 v3 v4 v5 t0 σ
    else
      if v3 = 5 then
        Piece_putOperand_B128 v0 v1 v2 v3 v4 v5 t0 σ
      else
        Piece_putOperand_B128 v0 v1 v2 v3 v4 v5 0 σ
def Piece_putOperand_B89 (v0 : Nat) (v1 : Nat) (v2 : Int32) (v3 : Int32) (v4 : Int32) (t0 : Int32) (σ : St) : Option (St) :=
  cl (House_isSmall (σ v1 4) σ) fun x2 σ1 =>
  if x2 = 0 then
    Piece_putOperand_B106 v0 v1 v2 v3 v4 t0 2 σ1
  else
    Piece_putOperand_B106 v0 v1 v2 v3 v4 t0 1 σ1
def Piece_putOperand_B73 (v0 : Nat) (v1 : Nat) (v2 : Int32) (v3 : Int32) (t0 : Int32) (σ : St) : Option (St) :=
  cl (Instruction_index v1 σ) fun x2 σ1 =>
  if ¬ x2 = 8 then
    Piece_putOperand_B89 v0 v1 v2 v3 t0 0 σ1
  else
    Piece_putOperand_B89 v0 v1 v2 v3 t0 1 σ1
def Piece_putOperand (v0 : Nat) (v1 : Nat) (σ : St) : Option (St) :=
  cl (Piece_middleOf v1 σ) fun x2 σ1 =>
  nm (8 * x2) fun x3 =>
  cl (House_isMemoryForm (σ1 v1 1) σ1) fun x5 σ4 =>
  if ¬ x5 = 0 then
    cl (Instruction_base v1 σ4) fun x7 σ6 =>
    if ¬ x7 = 8 then
      Piece_putOperand_B73 v0 v1 x3 x7 0 σ6
    else
      Piece_putOperand_B73 v0 v1 x3 x7 1 σ6
  else
    if ¬ (σ4 v1 1) = 2 then
      cv (Piece_put v0 ((192 + x3) + (σ4 v1 2)) σ4) fun σ8 =>
      some σ8
    else
      if ¬ (σ4 v1 0) = 11 then
        cv (Piece_put v0 ((192 + x3) + (σ4 v1 2)) σ4) fun σ9 =>
        some σ9
      else
        cv (Piece_put v0 ((192 + x3) + (σ4 v1 3)) σ4) fun σ10 =>
        some σ10
def House_isShift (v0 : Int32) (σ : St) : Option (Int32 × St) :=
  if v0 < 14 then
    some (0, σ)
  else
    if 16 < v0 then
      some (0, σ)
    else
      some (1, σ)
def Piece_putValue_B27 (v0 : Nat) (v1 : Nat) (σ : St) : Option (St) :=
  cl (House_isShift (σ v1 0) σ) fun x2 σ1 =>
  if ¬ x2 = 0 then
    cv (Piece_put v0 (σ1 v1 5) σ1) fun σ3 =>
    some σ3
  else
    if (σ1 v1 0) = 8 then
      cv (Piece_putFour v0 (σ1 v1 5) σ1) fun σ4 =>
      some σ4
    else
      cl (House_isSmall (σ1 v1 5) σ1) fun x6 σ5 =>
      if x6 = 0 then
        cv (Piece_putFour v0 (σ5 v1 5) σ5) fun σ7 =>
        some σ7
      else
        cv (Piece_put v0 (σ5 v1 5) σ5) fun σ8 =>
        some σ8
def Piece_putValue (v0 : Nat) (v1 : Nat) (σ : St) : Option (St) :=
  if (σ v1 1) = 5 then
    Piece_putValue_B27 v0 v1 σ
  else
    if (σ v1 1) = 6 then
      Piece_putValue_B27 v0 v1 σ
    else
      if (σ v1 1) = 8 then
        Piece_putValue_B27 v0 v1 σ
      else
        some σ
def Piece_become (v0 : Nat) (v1 : Nat) (σ : St) : Option (St) :=
  nm (s2 σ v0 1 0) fun σ1 =>
  cv (Piece_putLead v0 v1 σ1) fun σ2 =>
  cl (Piece_hasOperand v1 σ2) fun x4 σ3 =>
  if x4 = 0 then
    cv (Piece_putValue v0 v1 σ3) fun σ5 =>
    some σ5
  else
    cv (Piece_putOperand v0 v1 σ3) fun σ6 =>
    cv (Piece_putValue v0 v1 σ6) fun σ7 =>
    some σ7
def Piece_becomeRegisterOp (v0 : Nat) (v1 : Int32) (v2 : Int32) (σ : St) : Option (St) :=
  nm (s2 σ v0 1 0) fun σ1 =>
  cv (Piece_put v0 (v1 + v2) σ1) fun σ2 =>
  some σ2
def Piece_becomePair (v0 : Nat) (v1 : Int32) (v2 : Int32) (σ : St) : Option (St) :=
  nm (s2 σ v0 1 0) fun σ1 =>
  cv (Piece_put v0 131 σ1) fun σ2 =>
  cv (Piece_put v0 (224 + v1) σ2) fun σ3 =>
  cv (Piece_put v0 (-16) σ3) fun σ4 =>
  cv (Piece_put v0 255 σ4) fun σ5 =>
  if v2 = 0 then
    cv (Piece_put v0 (224 + v1) σ5) fun σ6 =>
    some σ6
  else
    cv (Piece_put v0 (208 + v1) σ5) fun σ7 =>
    some σ7
def Piece_becomeWithFour (v0 : Nat) (v1 : Int32) (v2 : Int32) (σ : St) : Option (St) :=
  nm (s2 σ v0 1 0) fun σ1 =>
  cv (Piece_put v0 v1 σ1) fun σ2 =>
  cv (Piece_putFour v0 v2 σ2) fun σ3 =>
  some σ3
def Piece_becomeShort (v0 : Nat) (v1 : Int32) (v2 : Int32) (σ : St) : Option (St) :=
  nm (s2 σ v0 1 0) fun σ1 =>
  cv (Piece_put v0 v1 σ1) fun σ2 =>
  cv (Piece_put v0 v2 σ2) fun σ3 =>
  some σ3
def Piece_becomeLongBranch (v0 : Nat) (v1 : Int32) (v2 : Int32) (σ : St) : Option (St) :=
  nm (s2 σ v0 1 0) fun σ1 =>
  cv (Piece_put v0 15 σ1) fun σ2 =>
  cv (Piece_put v0 (128 + v1) σ2) fun σ3 =>
  cv (Piece_putFour v0 v2 σ3) fun σ4 =>
  some σ4
def Builder_faultOf (v0 : Nat) (v1 : Int32) (σ : St) : Option (Int32 × St) :=
  cl (Program_hasItem (ch v0 1) v1 σ) fun x2 σ1 =>
  if ¬ x2 = 0 then
    ld σ1 (ch (ch v0 1) 1) 120 v1 fun x3 =>
    cl (Program_labelItem (ch v0 1) x3 σ1) fun x5 σ4 =>
    ld σ4 (ch (ch v0 1) 0) 120 v1 fun x6 =>
    if x6 = 0 then
      if ¬ x5 = v1 then
        some (1, σ4)
      else
        some (0, σ4)
    else
    if x6 = 1 then
      if ¬ x5 = (-1) then
        some (0, σ4)
      else
        some (2, σ4)
    else
    if x6 = 2 then
      if ¬ x5 = (-1) then
        some (0, σ4)
      else
        some (2, σ4)
    else
    if x6 = 3 then
      if ¬ x5 = (-1) then
        some (0, σ4)
      else
        some (2, σ4)
    else
    if x6 = 4 then
      some (0, σ4)
    else
    if x6 = 5 then
      some (0, σ4)
    else
    if x6 = 6 then
      some (0, σ4)
    else
    if x6 = 7 then
      some (0, σ4)
    else
    if x6 = 8 then
      if ¬ x5 = (-1) then
        cl (Program_isMarked (ch v0 1) x5 σ4) fun x8 σ7 =>
        if x8 = 0 then
          some (3, σ7)
        else
          some (0, σ7)
      else
        some (2, σ4)
    else
    some (0, σ4)
  else
    some (0, σ1)
def Builder_leftInBundle (v0 : Nat) (σ : St) : Option (Int32 × St) :=
  some (16 - (rem (σ v0 6) 16), σ)
def Builder_layLast_B21 (v0 : Nat) (v1 : Int32) (σ : St) : Option (Int32 × St) :=
  cl (Builder_leftInBundle v0 σ) fun x2 σ1 =>
  nm (s2 σ1 v0 6 ((σ v0 6) + x2)) fun σ3 =>
  some ((σ3 v0 6) - v1, σ3)
def Builder_layLast (v0 : Nat) (v1 : Int32) (σ : St) : Option (Int32 × St) :=
  cl (Builder_leftInBundle v0 σ) fun x2 σ1 =>
  if v1 ≤ x2 then
    Builder_layLast_B21 v0 v1 σ1
  else
    cl (Builder_leftInBundle v0 σ1) fun x4 σ3 =>
    nm (s2 σ3 v0 6 ((σ1 v0 6) + x4)) fun σ5 =>
    Builder_layLast_B21 v0 v1 σ5
def Builder_layPiece_B21 (v0 : Nat) (v1 : Int32) (σ : St) : Option (Int32 × St) :=
  nm (σ v0 6) fun x1 =>
  nm (s2 σ v0 6 ((σ v0 6) + v1)) fun σ2 =>
  some (x1, σ2)
def Builder_layPiece (v0 : Nat) (v1 : Int32) (σ : St) : Option (Int32 × St) :=
  cl (Builder_leftInBundle v0 σ) fun x2 σ1 =>
  if v1 ≤ x2 then
    Builder_layPiece_B21 v0 v1 σ1
  else
    cl (Builder_leftInBundle v0 σ1) fun x4 σ3 =>
    nm (s2 σ3 v0 6 ((σ1 v0 6) + x4)) fun σ5 =>
    Builder_layPiece_B21 v0 v1 σ5
def Builder_layItem_B52 (v0 : Nat) (v1 : Int32) (σ : St) : Option (Int32 × St) :=
  ld σ (ch v0 5) 120 v1 fun x1 =>
  cl (Builder_layPiece v0 x1 σ) fun x3 σ2 =>
  ld σ2 (ch (ch v0 1) 0) 120 v1 fun x4 =>
  if ¬ x4 = 7 then
    some (x3, σ2)
  else
    cl (Builder_layPiece v0 5 σ2) fun x6 σ5 =>
    some (x3, σ5)
def Builder_layItem (v0 : Nat) (v1 : Int32) (σ : St) : Option (Int32 × St) :=
  cl (Program_pushes (ch v0 1) v1 σ) fun x2 σ1 =>
  if x2 = 0 then
    cl (Program_isMarked (ch v0 1) v1 σ1) fun x4 σ3 =>
    if x4 = 0 then
      Builder_layItem_B52 v0 v1 σ3
    else
      nm (s2 σ3 v0 6 (((((σ3 v0 6) + 16) - 1) / 16) * 16)) fun σ5 =>
      Builder_layItem_B52 v0 v1 σ5
  else
    ld σ1 (ch v0 5) 120 v1 fun x6 =>
    cl (Builder_layLast v0 x6 σ1) fun x8 σ7 =>
    some (x8, σ7)
def Builder_layAll_B7 : Nat → Nat → Int32 → St → Option (St)
  | 0, _, _, _ => none
  | n + 1, v0, v1, σ =>
    if (σ (ch v0 1) 4) ≤ v1 then
      nm (s2 σ (ch v0 1) 5 (σ v0 6)) fun σ1 =>
      some σ1
    else
      if 120 ≤ v1 then
        nm (s2 σ (ch v0 1) 5 (σ v0 6)) fun σ2 =>
        some σ2
      else
        cl (Builder_layItem v0 v1 σ) fun x4 σ3 =>
        sa σ3 (ch (ch v0 1) 3) 120 v1 x4 fun σ5 =>
        nm (v1 + 1) fun x6 =>
        Builder_layAll_B7 n v0 x6 σ5
def Builder_layAll (v0 : Nat) (σ : St) : Option (St) :=
  nm (s2 σ v0 6 0) fun σ1 =>
  Builder_layAll_B7 FU v0 0 σ1
def Builder_labelPlace (v0 : Nat) (v1 : Int32) (σ : St) : Option (Int32 × St) :=
  ld σ (ch (ch v0 1) 1) 120 v1 fun x1 =>
  cl (Program_labelItem (ch v0 1) x1 σ) fun x3 σ2 =>
  cl (Program_itemPlace (ch v0 1) x3 σ2) fun x5 σ4 =>
  some (x5, σ4)
def Builder_distance (v0 : Nat) (v1 : Int32) (σ : St) : Option (Int32 × St) :=
  cl (Builder_labelPlace v0 v1 σ) fun x2 σ1 =>
  ld σ1 (ch (ch v0 1) 3) 120 v1 fun x3 =>
  ld σ1 (ch v0 5) 120 v1 fun x4 =>
  some (x2 - (x3 + x4), σ1)
def Builder_lengthen_B52 (K4 : Nat → Int32 → Int32 → St → Option (Int32 × St)) (v0 : Nat) (v1 : Int32) (v2 : Int32) (t0 : Int32) (σ : St) : Option (Int32 × St) :=
  if t0 = 0 then
    nm (v2 + 1) fun x1 =>
    K4 v0 v1 x1 σ
  else
    ld σ (ch v0 5) 120 v2 fun x2 =>
    if ¬ x2 = 2 then
      nm (v2 + 1) fun x3 =>
      K4 v0 v1 x3 σ
    else
      cl (Builder_distance v0 v2 σ) fun x5 σ4 =>
      cl (House_isSmall x5 σ4) fun x7 σ6 =>
      if ¬ x7 = 0 then
        nm (v2 + 1) fun x8 =>
        K4 v0 v1 x8 σ6
      else
        ld σ6 (ch (ch v0 1) 0) 120 v2 fun x9 =>
        if ¬ x9 = 1 then
          sa σ6 (ch v0 5) 120 v2 6 fun σ10 =>
          nm (v2 + 1) fun x11 =>
          K4 v0 1 x11 σ10
        else
          sa σ6 (ch v0 5) 120 v2 5 fun σ12 =>
          nm (v2 + 1) fun x13 =>
          K4 v0 1 x13 σ12
def Builder_lengthen_B4 : Nat → Nat → Int32 → Int32 → St → Option (Int32 × St)
  | 0, _, _, _, _ => none
  | n + 1, v0, v1, v2, σ =>
    if (σ (ch v0 1) 4) ≤ v2 then
      zb v1 <|
      some (v1, σ)
    else
      if 120 ≤ v2 then
        zb v1 <|
        some (v1, σ)
      else
        ld σ (ch (ch v0 1) 0) 120 v2 fun x1 =>
        if x1 = 1 then
          Builder_lengthen_B52 (Builder_lengthen_B4 n) v0 v1 v2 1 σ
        else
          ld σ (ch (ch v0 1) 0) 120 v2 fun x2 =>
          if ¬ x2 = 2 then
            Builder_lengthen_B52 (Builder_lengthen_B4 n) v0 v1 v2 0 σ
          else
            Builder_lengthen_B52 (Builder_lengthen_B4 n) v0 v1 v2 1 σ
def Builder_lengthen (v0 : Nat) (σ : St) : Option (Int32 × St) :=
  Builder_lengthen_B4 FU v0 0 0 σ
def Builder_measure_B2 : Nat → Nat → Int32 → St → Option (St)
  | 0, _, _, _ => none
  | n + 1, v0, v1, σ =>
    if (σ (ch v0 1) 4) ≤ v1 then
      some σ
    else
      if 120 ≤ v1 then
        some σ
      else
        ld σ (ch (ch v0 1) 0) 120 v1 fun x1 =>
        if x1 = 0 then
          sa σ (ch v0 5) 120 v1 0 fun σ2 =>
          nm (v1 + 1) fun x3 =>
          Builder_measure_B2 n v0 x3 σ2
        else
        if x1 = 1 then
          sa σ (ch v0 5) 120 v1 2 fun σ4 =>
          nm (v1 + 1) fun x5 =>
          Builder_measure_B2 n v0 x5 σ4
        else
        if x1 = 2 then
          sa σ (ch v0 5) 120 v1 2 fun σ6 =>
          nm (v1 + 1) fun x7 =>
          Builder_measure_B2 n v0 x7 σ6
        else
        if x1 = 3 then
          sa σ (ch v0 5) 120 v1 5 fun σ8 =>
          nm (v1 + 1) fun x9 =>
          Builder_measure_B2 n v0 x9 σ8
        else
        if x1 = 4 then
          sa σ (ch v0 5) 120 v1 5 fun σ10 =>
          nm (v1 + 1) fun x11 =>
          Builder_measure_B2 n v0 x11 σ10
        else
        if x1 = 5 then
          sa σ (ch v0 5) 120 v1 5 fun σ12 =>
          nm (v1 + 1) fun x13 =>
          Builder_measure_B2 n v0 x13 σ12
        else
        if x1 = 6 then
          sa σ (ch v0 5) 120 v1 5 fun σ14 =>
          nm (v1 + 1) fun x15 =>
          Builder_measure_B2 n v0 x15 σ14
        else
        if x1 = 7 then
          sa σ (ch v0 5) 120 v1 1 fun σ16 =>
          nm (v1 + 1) fun x17 =>
          Builder_measure_B2 n v0 x17 σ16
        else
        if x1 = 8 then
          sa σ (ch v0 5) 120 v1 5 fun σ18 =>
          nm (v1 + 1) fun x19 =>
          Builder_measure_B2 n v0 x19 σ18
        else
        if x1 = 9 then
          cv (Program_loadItem (ch v0 1) v1 (ch v0 4) σ) fun σ20 =>
          cv (Piece_become (ch v0 3) (ch v0 4) σ20) fun σ21 =>
          sa σ21 (ch v0 5) 120 v1 (σ21 (ch v0 3) 1) fun σ22 =>
          nm (v1 + 1) fun x23 =>
          Builder_measure_B2 n v0 x23 σ22
        else
        sa σ (ch v0 5) 120 v1 5 fun σ24 =>
        nm (v1 + 1) fun x25 =>
        Builder_measure_B2 n v0 x25 σ24
def Builder_measure (v0 : Nat) (σ : St) : Option (St) :=
  Builder_measure_B2 FU v0 0 σ
def Builder_wholeSize (v0 : Nat) (σ : St) : Option (Int32 × St) :=
  some ((((σ (ch v0 1) 5) / 16) + 1) * 16, σ)
def Builder_findFault_B89 (v0 : Nat) (σ : St) : Option (Int32 × St) :=
  cl (Builder_wholeSize v0 σ) fun x2 σ1 =>
  if x2 ≤ 1024 then
    some (0, σ1)
  else
    some (4, σ1)
def Builder_findFault_B56 : Nat → Nat → Int32 → Int32 → St → Option (Int32 × St)
  | 0, _, _, _, _ => none
  | n + 1, v0, v1, v2, σ =>
    if 120 < v2 then
      Builder_findFault_B89 v0 σ
    else
      if ¬ v1 = 0 then
        Builder_findFault_B89 v0 σ
      else
        cv (Builder_layAll v0 σ) fun σ1 =>
        cl (Builder_lengthen v0 σ1) fun x3 σ2 =>
        if ¬ x3 = 0 then
          nm (v2 + 1) fun x4 =>
          Builder_findFault_B56 n v0 0 x4 σ2
        else
          nm (v2 + 1) fun x5 =>
          Builder_findFault_B56 n v0 1 x5 σ2
def Builder_findFault_B9 : Nat → Nat → Int32 → St → Option (Int32 × St)
  | 0, _, _, _ => none
  | n + 1, v0, v1, σ =>
    if (σ (ch v0 1) 4) ≤ v1 then
      nm (s2 σ v0 0 (-1)) fun σ1 =>
      cv (Builder_measure v0 σ1) fun σ2 =>
      Builder_findFault_B56 FU v0 0 0 σ2
    else
      cl (Builder_faultOf v0 v1 σ) fun x4 σ3 =>
      if x4 = 0 then
        nm (v1 + 1) fun x5 =>
        Builder_findFault_B9 n v0 x5 σ3
      else
        nm (s2 σ3 v0 0 v1) fun σ6 =>
        some (x4, σ6)
def Builder_findFault (v0 : Nat) (σ : St) : Option (Int32 × St) :=
  cv (Program_findLabels (ch v0 1) σ) fun σ1 =>
  Builder_findFault_B9 FU v0 0 σ1
def Builder_makeJump_B15 (v0 : Nat) (v1 : Int32) (v2 : Int32) (t0 : Int32) (σ : St) : Option (St) :=
  ld σ (ch (ch v0 1) 0) 120 v1 fun x1 =>
  if ¬ x1 = 1 then
    if t0 = 0 then
      ld σ (ch (ch v0 1) 2) 120 v1 fun x2 =>
      cv (Piece_becomeLongBranch (ch v0 3) x2 v2 σ) fun σ3 =>
      some σ3
    else
      ld σ (ch (ch v0 1) 2) 120 v1 fun x4 =>
      cv (Piece_becomeShort (ch v0 3) (112 + x4) v2 σ) fun σ5 =>
      some σ5
  else
    if t0 = 0 then
      cv (Piece_becomeWithFour (ch v0 3) 233 v2 σ) fun σ6 =>
      some σ6
    else
      cv (Piece_becomeShort (ch v0 3) 235 v2 σ) fun σ7 =>
      some σ7
def Builder_makeJump (v0 : Nat) (v1 : Int32) (v2 : Int32) (σ : St) : Option (St) :=
  ld σ (ch v0 5) 120 v1 fun x1 =>
  if ¬ x1 = 2 then
    Builder_makeJump_B15 v0 v1 v2 0 σ
  else
    Builder_makeJump_B15 v0 v1 v2 1 σ
def Builder_makePiece_B79 (v0 : Nat) (v1 : Int32) (σ : St) : Option (St) :=
  cl (Builder_distance v0 v1 σ) fun x2 σ1 =>
  cv (Builder_makeJump v0 v1 x2 σ1) fun σ3 =>
  some σ3
def Builder_makePiece (v0 : Nat) (v1 : Int32) (σ : St) : Option (St) :=
  ld σ (ch (ch v0 1) 1) 120 v1 fun x1 =>
  ld σ (ch (ch v0 1) 0) 120 v1 fun x2 =>
  if x2 = 0 then
    nm (s2 σ (ch v0 3) 1 0) fun σ3 =>
    some σ3
  else
  if x2 = 1 then
    Builder_makePiece_B79 v0 v1 σ
  else
  if x2 = 2 then
    Builder_makePiece_B79 v0 v1 σ
  else
  if x2 = 3 then
    cl (Builder_distance v0 v1 σ) fun x5 σ4 =>
    cv (Piece_becomeWithFour (ch v0 3) 232 x5 σ4) fun σ6 =>
    some σ6
  else
  if x2 = 4 then
    ld σ (ch (ch v0 1) 3) 120 v1 fun x7 =>
    ld σ (ch v0 5) 120 v1 fun x8 =>
    cv (Piece_becomeWithFour (ch v0 3) 232 ((16 * x1) - ((256 + x7) + x8)) σ) fun σ9 =>
    some σ9
  else
  if x2 = 5 then
    cv (Piece_becomePair (ch v0 3) x1 0 σ) fun σ10 =>
    some σ10
  else
  if x2 = 6 then
    cv (Piece_becomePair (ch v0 3) x1 1 σ) fun σ11 =>
    some σ11
  else
  if x2 = 7 then
    cv (Piece_becomeRegisterOp (ch v0 3) 88 1 σ) fun σ12 =>
    some σ12
  else
  if x2 = 8 then
    ld σ (ch (ch v0 1) 2) 120 v1 fun x13 =>
    cl (Builder_labelPlace v0 v1 σ) fun x15 σ14 =>
    cv (Piece_becomeWithFour (ch v0 3) (184 + x13) (256 + x15) σ14) fun σ16 =>
    some σ16
  else
  cv (Program_loadItem (ch v0 1) v1 (ch v0 4) σ) fun σ17 =>
  cv (Piece_become (ch v0 3) (ch v0 4) σ17) fun σ18 =>
  some σ18
def Builder_writeCode_B27 : Nat → Nat → Int32 → St → Option (St)
  | 0, _, _, _ => none
  | n + 1, v0, v1, σ =>
    if (σ (ch v0 1) 4) ≤ v1 then
      some σ
    else
      if 120 ≤ v1 then
        some σ
      else
        cv (Builder_makePiece v0 v1 σ) fun σ1 =>
        ld σ1 (ch (ch v0 1) 3) 120 v1 fun x2 =>
        cv (Strip_putPiece (ch v0 2) x2 (ch v0 3) σ1) fun σ3 =>
        ld σ3 (ch (ch v0 1) 0) 120 v1 fun x4 =>
        if ¬ x4 = 7 then
          nm (v1 + 1) fun x5 =>
          Builder_writeCode_B27 n v0 x5 σ3
        else
          ld σ3 (ch (ch v0 1) 3) 120 v1 fun x6 =>
          ld σ3 (ch v0 5) 120 v1 fun x7 =>
          nm (s2 σ3 v0 6 (x6 + x7)) fun σ8 =>
          cv (Piece_becomePair (ch v0 3) 1 0 σ8) fun σ9 =>
          cl (Builder_layPiece v0 5 σ9) fun x11 σ10 =>
          cv (Strip_putPiece (ch v0 2) x11 (ch v0 3) σ10) fun σ12 =>
          nm (v1 + 1) fun x13 =>
          Builder_writeCode_B27 n v0 x13 σ12
def Builder_writeCode (v0 : Nat) (σ : St) : Option (St) :=
  cv (Program_findLandings (ch v0 1) σ) fun σ1 =>
  cl (Builder_wholeSize v0 σ1) fun x3 σ2 =>
  cv (Strip_becomeFilling (ch v0 2) x3 (σ2 (ch v0 1) 5) σ2) fun σ4 =>
  Builder_writeCode_B27 FU v0 0 σ4
def Flags_setAll (v0 : Nat) (v1 : Int32) (σ : St) : Option (St) :=
  nm (s2 σ v0 0 v1) fun σ1 =>
  nm (s2 σ1 v0 1 v1) fun σ2 =>
  nm (s2 σ2 v0 2 v1) fun σ3 =>
  nm (s2 σ3 v0 3 v1) fun σ4 =>
  some σ4
def Flags_narrowed (v0 : Nat) (v1 : Int64) (σ : St) : Option (Int32 × St) :=
  if ¬ (lg_cmp v1 (Int32.toInt64 (Int64.toInt32 v1))) = 0 then
    nm (s2 σ v0 3 1) fun σ1 =>
    some (Int64.toInt32 v1, σ1)
  else
    nm (s2 σ v0 3 0) fun σ2 =>
    some (Int64.toInt32 v1, σ2)
def Flags_difference_B25 (v0 : Nat) (v1 : Int32) (v2 : Int32) (v3 : Int32) (t0 : Nat) (t1 : Int32) (σ : St) : Option (Int32 × St) :=
  nm (s2 σ t0 0 t1) fun σ1 =>
  cl (Flags_narrowed v0 (((Int32.toInt64 v1) - (Int32.toInt64 v2)) - (Int32.toInt64 v3)) σ1) fun x3 σ2 =>
  some (x3, σ2)
def Flags_difference (v0 : Nat) (v1 : Int32) (v2 : Int32) (v3 : Int32) (σ : St) : Option (Int32 × St) :=
  if (lg_cmp (((Int32.toInt64 v2) &&& 4294967295) + (Int32.toInt64 v3)) ((Int32.toInt64 v1) &&& 4294967295)) ≤ 0 then
    Flags_difference_B25 v0 v1 v2 v3 v0 0 σ
  else
    Flags_difference_B25 v0 v1 v2 v3 v0 1 σ
def Flags_logic (v0 : Nat) (v1 : Int32) (v2 : Int32) (v3 : Int32) (σ : St) : Option (Int32 × St) :=
  nm (s2 σ v0 0 0) fun σ1 =>
  nm (s2 σ1 v0 3 0) fun σ2 =>
  if ¬ v1 = 1 then
    if ¬ v1 = 6 then
      some (v2 &&& v3, σ2)
    else
      some (v2 ^^^ v3, σ2)
  else
    some (v2 ||| v3, σ2)
def Flags_product (v0 : Nat) (v1 : Int32) (v2 : Int32) (σ : St) : Option (Int32 × St) :=
  cl (Flags_narrowed v0 ((Int32.toInt64 v1) * (Int32.toInt64 v2)) σ) fun x2 σ1 =>
  nm (s2 σ1 v0 0 (σ1 v0 3)) fun σ3 =>
  some (x2, σ3)
def Flags_shifted_B66 (v1 : Int32) (v2 : Int32) (v3 : Int32) (t0 : Nat) (t1 : Int32) (σ : St) : Option (Int32 × St) :=
  nm (s2 σ t0 3 t1) fun σ1 =>
  if ¬ v1 = 15 then
    some (shr v2 v3, σ1)
  else
    some (ushr v2 v3, σ1)
def Flags_shifted (v0 : Nat) (v1 : Int32) (v2 : Int32) (v3 : Int32) (σ : St) : Option (Int32 × St) :=
  if ¬ v1 = 14 then
    nm (s2 σ v0 0 ((ushr v2 (v3 - 1)) &&& 1)) fun σ1 =>
    if ¬ v1 = 15 then
      Flags_shifted_B66 v1 v2 v3 v0 0 σ1
    else
      Flags_shifted_B66 v1 v2 v3 v0 (ushr v2 31) σ1
  else
    nm (shl v2 v3) fun x2 =>
    nm (s2 σ v0 0 ((ushr v2 (32 - v3)) &&& 1)) fun σ3 =>
    nm (s2 σ3 v0 3 ((ushr x2 31) ^^^ (σ3 v0 0))) fun σ4 =>
    some (x2, σ4)
def Flags_sum_B29 (v0 : Nat) (v1 : Int32) (v2 : Int32) (v3 : Int32) (t0 : Nat) (t1 : Int32) (σ : St) : Option (Int32 × St) :=
  nm (s2 σ t0 0 t1) fun σ1 =>
  cl (Flags_narrowed v0 (((Int32.toInt64 v1) + (Int32.toInt64 v2)) + (Int32.toInt64 v3)) σ1) fun x3 σ2 =>
  some (x3, σ2)
def Flags_sum (v0 : Nat) (v1 : Int32) (v2 : Int32) (v3 : Int32) (σ : St) : Option (Int32 × St) :=
  if (lg_cmp ((((Int32.toInt64 v1) &&& 4294967295) + ((Int32.toInt64 v2) &&& 4294967295)) + (Int32.toInt64 v3)) 4294967295) ≤ 0 then
    Flags_sum_B29 v0 v1 v2 v3 v0 0 σ
  else
    Flags_sum_B29 v0 v1 v2 v3 v0 1 σ
def Flags_reckon_B142 (v0 : Nat) (v2 : Int32) (v3 : Int32) (σ : St) : Option (Int32 × St) :=
  cl (Flags_difference v0 v2 v3 0 σ) fun x2 σ1 =>
  if ¬ x2 = 0 then
    nm (s2 σ1 v0 1 0) fun σ3 =>
    if 0 ≤ x2 then
      nm (s2 σ3 v0 2 0) fun σ4 =>
      some (x2, σ4)
    else
      nm (s2 σ3 v0 2 1) fun σ5 =>
      some (x2, σ5)
  else
    nm (s2 σ1 v0 1 1) fun σ6 =>
    if 0 ≤ x2 then
      nm (s2 σ6 v0 2 0) fun σ7 =>
      some (x2, σ7)
    else
      nm (s2 σ6 v0 2 1) fun σ8 =>
      some (x2, σ8)
def Flags_reckon_B217 (v0 : Nat) (v1 : Int32) (v2 : Int32) (v3 : Int32) (σ : St) : Option (Int32 × St) :=
  if ¬ (v3 &&& 31) = 0 then
    cl (Flags_shifted v0 v1 v2 (v3 &&& 31) σ) fun x2 σ1 =>
    if ¬ x2 = 0 then
      nm (s2 σ1 v0 1 0) fun σ3 =>
      if 0 ≤ x2 then
        nm (s2 σ3 v0 2 0) fun σ4 =>
        some (x2, σ4)
      else
        nm (s2 σ3 v0 2 1) fun σ5 =>
        some (x2, σ5)
    else
      nm (s2 σ1 v0 1 1) fun σ6 =>
      if 0 ≤ x2 then
        nm (s2 σ6 v0 2 0) fun σ7 =>
        some (x2, σ7)
      else
        nm (s2 σ6 v0 2 1) fun σ8 =>
        some (x2, σ8)
  else
    some (v2, σ)
def Flags_reckon_B241 (v0 : Nat) (v1 : Int32) (v2 : Int32) (v3 : Int32) (σ : St) : Option (Int32 × St) :=
  cl (Flags_logic v0 v1 v2 v3 σ) fun x2 σ1 =>
  if ¬ x2 = 0 then
    nm (s2 σ1 v0 1 0) fun σ3 =>
    if 0 ≤ x2 then
      nm (s2 σ3 v0 2 0) fun σ4 =>
      some (x2, σ4)
    else
      nm (s2 σ3 v0 2 1) fun σ5 =>
      some (x2, σ5)
  else
    nm (s2 σ1 v0 1 1) fun σ6 =>
    if 0 ≤ x2 then
      nm (s2 σ6 v0 2 0) fun σ7 =>
      some (x2, σ7)
    else
      nm (s2 σ6 v0 2 1) fun σ8 =>
      some (x2, σ8)
def Flags_reckon (v0 : Nat) (v1 : Int32) (v2 : Int32) (v3 : Int32) (σ : St) : Option (Int32 × St) :=
  nm (σ v0 0) fun x1 =>
  if v1 = 0 then
    cl (Flags_sum v0 v2 v3 0 σ) fun x3 σ2 =>
    if ¬ x3 = 0 then
      nm (s2 σ2 v0 1 0) fun σ4 =>
      if 0 ≤ x3 then
        nm (s2 σ4 v0 2 0) fun σ5 =>
        some (x3, σ5)
      else
        nm (s2 σ4 v0 2 1) fun σ6 =>
        some (x3, σ6)
    else
      nm (s2 σ2 v0 1 1) fun σ7 =>
      if 0 ≤ x3 then
        nm (s2 σ7 v0 2 0) fun σ8 =>
        some (x3, σ8)
      else
        nm (s2 σ7 v0 2 1) fun σ9 =>
        some (x3, σ9)
  else
  if v1 = 1 then
    Flags_reckon_B241 v0 v1 v2 v3 σ
  else
  if v1 = 2 then
    cl (Flags_sum v0 v2 v3 (σ v0 0) σ) fun x11 σ10 =>
    if ¬ x11 = 0 then
      nm (s2 σ10 v0 1 0) fun σ12 =>
      if 0 ≤ x11 then
        nm (s2 σ12 v0 2 0) fun σ13 =>
        some (x11, σ13)
      else
        nm (s2 σ12 v0 2 1) fun σ14 =>
        some (x11, σ14)
    else
      nm (s2 σ10 v0 1 1) fun σ15 =>
      if 0 ≤ x11 then
        nm (s2 σ15 v0 2 0) fun σ16 =>
        some (x11, σ16)
      else
        nm (s2 σ15 v0 2 1) fun σ17 =>
        some (x11, σ17)
  else
  if v1 = 3 then
    cl (Flags_difference v0 v2 v3 (σ v0 0) σ) fun x19 σ18 =>
    if ¬ x19 = 0 then
      nm (s2 σ18 v0 1 0) fun σ20 =>
      if 0 ≤ x19 then
        nm (s2 σ20 v0 2 0) fun σ21 =>
        some (x19, σ21)
      else
        nm (s2 σ20 v0 2 1) fun σ22 =>
        some (x19, σ22)
    else
      nm (s2 σ18 v0 1 1) fun σ23 =>
      if 0 ≤ x19 then
        nm (s2 σ23 v0 2 0) fun σ24 =>
        some (x19, σ24)
      else
        nm (s2 σ23 v0 2 1) fun σ25 =>
        some (x19, σ25)
  else
  if v1 = 4 then
    Flags_reckon_B241 v0 v1 v2 v3 σ
  else
  if v1 = 5 then
    Flags_reckon_B142 v0 v2 v3 σ
  else
  if v1 = 6 then
    Flags_reckon_B241 v0 v1 v2 v3 σ
  else
  if v1 = 7 then
    Flags_reckon_B142 v0 v2 v3 σ
  else
  if v1 = 8 then
    Flags_reckon_B241 v0 v1 v2 v3 σ
  else
  if v1 = 9 then
    Flags_reckon_B241 v0 v1 v2 v3 σ
  else
  if v1 = 10 then
    Flags_reckon_B241 v0 v1 v2 v3 σ
  else
  if v1 = 11 then
    cl (Flags_product v0 v2 v3 σ) fun x27 σ26 =>
    if ¬ x27 = 0 then
      nm (s2 σ26 v0 1 0) fun σ28 =>
      if 0 ≤ x27 then
        nm (s2 σ28 v0 2 0) fun σ29 =>
        some (x27, σ29)
      else
        nm (s2 σ28 v0 2 1) fun σ30 =>
        some (x27, σ30)
    else
      nm (s2 σ26 v0 1 1) fun σ31 =>
      if 0 ≤ x27 then
        nm (s2 σ31 v0 2 0) fun σ32 =>
        some (x27, σ32)
      else
        nm (s2 σ31 v0 2 1) fun σ33 =>
        some (x27, σ33)
  else
  if v1 = 12 then
    some (v2 ^^^ (-1), σ)
  else
  if v1 = 13 then
    cl (Flags_difference v0 0 v2 0 σ) fun x35 σ34 =>
    if ¬ x35 = 0 then
      nm (s2 σ34 v0 1 0) fun σ36 =>
      if 0 ≤ x35 then
        nm (s2 σ36 v0 2 0) fun σ37 =>
        some (x35, σ37)
      else
        nm (s2 σ36 v0 2 1) fun σ38 =>
        some (x35, σ38)
    else
      nm (s2 σ34 v0 1 1) fun σ39 =>
      if 0 ≤ x35 then
        nm (s2 σ39 v0 2 0) fun σ40 =>
        some (x35, σ40)
      else
        nm (s2 σ39 v0 2 1) fun σ41 =>
        some (x35, σ41)
  else
  if v1 = 14 then
    Flags_reckon_B217 v0 v1 v2 v3 σ
  else
  if v1 = 15 then
    Flags_reckon_B217 v0 v1 v2 v3 σ
  else
  if v1 = 16 then
    Flags_reckon_B217 v0 v1 v2 v3 σ
  else
  if v1 = 17 then
    cl (Flags_sum v0 v2 1 0 σ) fun x43 σ42 =>
    nm (s2 σ42 v0 0 x1) fun σ44 =>
    if ¬ x43 = 0 then
      nm (s2 σ44 v0 1 0) fun σ45 =>
      if 0 ≤ x43 then
        nm (s2 σ45 v0 2 0) fun σ46 =>
        some (x43, σ46)
      else
        nm (s2 σ45 v0 2 1) fun σ47 =>
        some (x43, σ47)
    else
      nm (s2 σ44 v0 1 1) fun σ48 =>
      if 0 ≤ x43 then
        nm (s2 σ48 v0 2 0) fun σ49 =>
        some (x43, σ49)
      else
        nm (s2 σ48 v0 2 1) fun σ50 =>
        some (x43, σ50)
  else
  if v1 = 18 then
    cl (Flags_difference v0 v2 1 0 σ) fun x52 σ51 =>
    nm (s2 σ51 v0 0 x1) fun σ53 =>
    if ¬ x52 = 0 then
      nm (s2 σ53 v0 1 0) fun σ54 =>
      if 0 ≤ x52 then
        nm (s2 σ54 v0 2 0) fun σ55 =>
        some (x52, σ55)
      else
        nm (s2 σ54 v0 2 1) fun σ56 =>
        some (x52, σ56)
    else
      nm (s2 σ53 v0 1 1) fun σ57 =>
      if 0 ≤ x52 then
        nm (s2 σ57 v0 2 0) fun σ58 =>
        some (x52, σ58)
      else
        nm (s2 σ57 v0 2 1) fun σ59 =>
        some (x52, σ59)
  else
  Flags_reckon_B241 v0 v1 v2 v3 σ
def Flags_isUnknownTo_B144 (v0 : Nat) (σ : St) : Option (Int32 × St) :=
  if (σ v0 1) = 2 then
    some (1, σ)
  else
    if (σ v0 2) = 2 then
      some (1, σ)
    else
      if ¬ (σ v0 3) = 2 then
        some (0, σ)
      else
        some (1, σ)
def Flags_isUnknownTo (v0 : Nat) (v1 : Int32) (σ : St) : Option (Int32 × St) :=
  nm (shr v1 1) fun x1 =>
  if x1 = 0 then
    if ¬ (σ v0 3) = 2 then
      some (0, σ)
    else
      some (1, σ)
  else
  if x1 = 1 then
    if ¬ (σ v0 0) = 2 then
      some (0, σ)
    else
      some (1, σ)
  else
  if x1 = 2 then
    if ¬ (σ v0 1) = 2 then
      some (0, σ)
    else
      some (1, σ)
  else
  if x1 = 3 then
    if (σ v0 0) = 2 then
      some (1, σ)
    else
      if ¬ (σ v0 1) = 2 then
        some (0, σ)
      else
        some (1, σ)
  else
  if x1 = 4 then
    if ¬ (σ v0 2) = 2 then
      some (0, σ)
    else
      some (1, σ)
  else
  if x1 = 5 then
    Flags_isUnknownTo_B144 v0 σ
  else
  if x1 = 6 then
    if (σ v0 2) = 2 then
      some (1, σ)
    else
      if ¬ (σ v0 3) = 2 then
        some (0, σ)
      else
        some (1, σ)
  else
  Flags_isUnknownTo_B144 v0 σ
def Flags_holds_B205 (v0 : Nat) (v2 : Int32) (σ : St) : Option (Int32 × St) :=
  if (σ v0 1) = 1 then
    if ¬ v2 = 1 then
      some (0, σ)
    else
      some (1, σ)
  else
    if (σ v0 2) = (σ v0 3) then
      if ¬ v2 = 0 then
        some (0, σ)
      else
        some (1, σ)
    else
      if ¬ v2 = 1 then
        some (0, σ)
      else
        some (1, σ)
def Flags_holds_B11 (v0 : Nat) (v1 : Int32) (t0 : Int32) (σ : St) : Option (Int32 × St) :=
  nm (shr v1 1) fun x1 =>
  if x1 = 0 then
    if ¬ (σ v0 3) = 1 then
      if ¬ t0 = 0 then
        some (0, σ)
      else
        some (1, σ)
    else
      if ¬ t0 = 1 then
        some (0, σ)
      else
        some (1, σ)
  else
  if x1 = 1 then
    if ¬ (σ v0 0) = 1 then
      if ¬ t0 = 0 then
        some (0, σ)
      else
        some (1, σ)
    else
      if ¬ t0 = 1 then
        some (0, σ)
      else
        some (1, σ)
  else
  if x1 = 2 then
    if ¬ (σ v0 1) = 1 then
      if ¬ t0 = 0 then
        some (0, σ)
      else
        some (1, σ)
    else
      if ¬ t0 = 1 then
        some (0, σ)
      else
        some (1, σ)
  else
  if x1 = 3 then
    if (σ v0 0) = 1 then
      if ¬ t0 = 1 then
        some (0, σ)
      else
        some (1, σ)
    else
      if ¬ (σ v0 1) = 1 then
        if ¬ t0 = 0 then
          some (0, σ)
        else
          some (1, σ)
      else
        if ¬ t0 = 1 then
          some (0, σ)
        else
          some (1, σ)
  else
  if x1 = 4 then
    if ¬ (σ v0 2) = 1 then
      if ¬ t0 = 0 then
        some (0, σ)
      else
        some (1, σ)
    else
      if ¬ t0 = 1 then
        some (0, σ)
      else
        some (1, σ)
  else
  if x1 = 5 then
    Flags_holds_B205 v0 t0 σ
  else
  if x1 = 6 then
    if (σ v0 2) = (σ v0 3) then
      if ¬ t0 = 0 then
        some (0, σ)
      else
        some (1, σ)
    else
      if ¬ t0 = 1 then
        some (0, σ)
      else
        some (1, σ)
  else
  Flags_holds_B205 v0 t0 σ
def Flags_holds (v0 : Nat) (v1 : Int32) (σ : St) : Option (Int32 × St) :=
  if ¬ (v1 &&& 1) = 0 then
    Flags_holds_B11 v0 v1 0 σ
  else
    Flags_holds_B11 v0 v1 1 σ
def Machine_forget_B23 : Nat → Nat → Int32 → St → Option (St)
  | 0, _, _, _ => none
  | n + 1, v0, v1, σ =>
    if 1024 ≤ v1 then
      nm (s2 σ v0 10 0) fun σ1 =>
      some σ1
    else
      sa σ (ch v0 8) 1024 v1 0 fun σ2 =>
      nm (v1 + 1) fun x3 =>
      Machine_forget_B23 n v0 x3 σ2
def Machine_forget_B2 : Nat → Nat → Int32 → St → Option (St)
  | 0, _, _, _ => none
  | n + 1, v0, v1, σ =>
    if 8 ≤ v1 then
      Machine_forget_B23 FU v0 0 σ
    else
      sa σ (ch v0 7) 8 v1 0 fun σ1 =>
      nm (v1 + 1) fun x2 =>
      Machine_forget_B2 n v0 x2 σ1
def Machine_forget (v0 : Nat) (σ : St) : Option (St) :=
  Machine_forget_B2 FU v0 0 σ
def Machine_beginAs (v0 : Nat) (v1 : Nat) (σ : St) : Option (St) :=
  cp σ (ch v1 7) 8 0 (ch v0 7) 8 0 8 fun σ1 =>
  cp σ1 (ch v1 8) 1024 0 (ch v0 8) 1024 0 1024 fun σ2 =>
  cp σ2 (ch v1 9) 50 0 (ch v0 9) 50 0 50 fun σ3 =>
  nm (s2 σ3 v0 10 (σ3 v1 10)) fun σ4 =>
  nm (s2 σ4 v0 11 0) fun σ5 =>
  nm (s2 σ5 v0 13 0) fun σ6 =>
  cv (Flags_setAll (ch v0 0) 0 σ6) fun σ7 =>
  nm (s2 σ7 v0 5 0) fun σ8 =>
  nm (s2 σ8 v0 1 256) fun σ9 =>
  nm (s2 σ9 v0 2 0) fun σ10 =>
  nm (s2 σ10 v0 3 0) fun σ11 =>
  nm (s2 σ11 v0 4 0) fun σ12 =>
  nm (s2 σ12 v0 6 1) fun σ13 =>
  some σ13
def Machine_addInput (v0 : Nat) (v1 : Int32) (σ : St) : Option (Int32 × St) :=
  if (σ v0 10) < 50 then
    sa σ (ch v0 9) 50 (σ v0 10) v1 fun σ1 =>
    nm (s2 σ1 v0 10 ((σ1 v0 10) + 1)) fun σ2 =>
    some (1, σ2)
  else
    some (0, σ)
def House_isRegister (v0 : Int32) (σ : St) : Option (Int32 × St) :=
  if v0 < 0 then
    some (0, σ)
  else
    if 8 ≤ v0 then
      some (0, σ)
    else
      some (1, σ)
def Machine_registerAt (v0 : Nat) (v1 : Int32) (σ : St) : Option (Int32 × St) :=
  cl (House_isRegister v1 σ) fun x2 σ1 =>
  if x2 = 0 then
    some (0, σ1)
  else
    ld σ1 (ch v0 7) 8 v1 fun x3 =>
    some (x3, σ1)
def Machine_part (v0 : Nat) (v1 : Int32) (σ : St) : Option (Int32 × St) :=
  if v1 = 8 then
    some (σ (ch v0 0) 0, σ)
  else
  if v1 = 9 then
    some (σ (ch v0 0) 1, σ)
  else
  if v1 = 10 then
    some (σ (ch v0 0) 2, σ)
  else
  if v1 = 11 then
    some (σ (ch v0 0) 3, σ)
  else
  if v1 = 12 then
    some (σ v0 1, σ)
  else
  if v1 = 13 then
    some (σ v0 2, σ)
  else
  if v1 = 14 then
    some (σ v0 3, σ)
  else
  if v1 = 15 then
    some (σ v0 13, σ)
  else
  if v1 = 16 then
    some (σ v0 4, σ)
  else
  if v1 = 17 then
    if (σ v0 5) = 0 then
      some (0, σ)
    else
      some (1, σ)
  else
  cl (Machine_registerAt v0 v1 σ) fun x2 σ1 =>
  some (x2, σ1)
def Machine_byteAt (v0 : Nat) (v1 : Int32) (σ : St) : Option (Int32 × St) :=
  if v1 < 0 then
    some ((-1), σ)
  else
    if v1 < 1024 then
      ld σ (ch v0 8) 1024 v1 fun x1 =>
      some (x1, σ)
    else
      some ((-1), σ)
def Machine_hasOutput (v0 : Nat) (v1 : Int32) (σ : St) : Option (Int32 × St) :=
  if v1 < 0 then
    some (0, σ)
  else
    if (σ v0 13) ≤ v1 then
      some (0, σ)
    else
      if 100 ≤ v1 then
        some (0, σ)
      else
        some (1, σ)
def Machine_outputAt (v0 : Nat) (v1 : Int32) (σ : St) : Option (Int32 × St) :=
  cl (Machine_hasOutput v0 v1 σ) fun x2 σ1 =>
  if x2 = 0 then
    some ((-1), σ1)
  else
    ld σ1 (ch v0 12) 100 v1 fun x3 =>
    some (x3, σ1)
def Machine_give (v0 : Nat) (v1 : Int32) (v2 : Int32) (σ : St) : Option (St) :=
  cl (House_isRegister v1 σ) fun x2 σ1 =>
  if x2 = 0 then
    some σ1
  else
    sa σ1 (ch v0 7) 8 v1 v2 fun σ3 =>
    if (σ3 v0 5) = 0 then
      nm (s2 σ3 v0 5 0) fun σ4 =>
      some σ4
    else
      if v1 = 1 then
        nm (s2 σ3 v0 5 0) fun σ5 =>
        some σ5
      else
        nm (s2 σ3 v0 5 1) fun σ6 =>
        some σ6
def House_isWord (v0 : Int32) (σ : St) : Option (Int32 × St) :=
  if v0 < 0 then
    some (0, σ)
  else
    if 1020 < v0 then
      some (0, σ)
    else
      some (1, σ)
def Machine_wordAt (v0 : Nat) (v1 : Int32) (σ : St) : Option (Int32 × St) :=
  cl (House_isWord v1 σ) fun x2 σ1 =>
  if ¬ x2 = 0 then
    ld σ1 (ch v0 8) 1024 v1 fun x3 =>
    ld σ1 (ch v0 8) 1024 (v1 + 1) fun x4 =>
    ld σ1 (ch v0 8) 1024 (v1 + 2) fun x5 =>
    ld σ1 (ch v0 8) 1024 (v1 + 3) fun x6 =>
    some (((x3 ||| (shl x4 8)) ||| (shl x5 16)) ||| (shl x6 24), σ1)
  else
    some (0, σ1)
def Machine_giveWord (v0 : Nat) (v1 : Int32) (v2 : Int32) (σ : St) : Option (St) :=
  cl (House_isWord v1 σ) fun x2 σ1 =>
  if x2 = 0 then
    some σ1
  else
    sa σ1 (ch v0 8) 1024 v1 (v2 &&& 255) fun σ3 =>
    sa σ3 (ch v0 8) 1024 (v1 + 1) ((ushr v2 8) &&& 255) fun σ4 =>
    sa σ4 (ch v0 8) 1024 (v1 + 2) ((ushr v2 16) &&& 255) fun σ5 =>
    sa σ5 (ch v0 8) 1024 (v1 + 3) (ushr v2 24) fun σ6 =>
    some σ6
def Machine_canPush (v0 : Nat) (σ : St) : Option (Int32 × St) :=
  ld σ (ch v0 7) 8 4 fun x1 =>
  cl (House_isWord (x1 - 4) σ) fun x3 σ2 =>
  zb x3 <|
  some (x3, σ2)
def Machine_canPop (v0 : Nat) (σ : St) : Option (Int32 × St) :=
  ld σ (ch v0 7) 8 4 fun x1 =>
  cl (House_isWord x1 σ) fun x3 σ2 =>
  zb x3 <|
  some (x3, σ2)
def Machine_push (v0 : Nat) (v1 : Int32) (σ : St) : Option (St) :=
  ld σ (ch v0 7) 8 4 fun x1 =>
  sa σ (ch v0 7) 8 4 (x1 - 4) fun σ2 =>
  ld σ2 (ch v0 7) 8 4 fun x3 =>
  cv (Machine_giveWord v0 x3 v1 σ2) fun σ4 =>
  some σ4
def Machine_pop (v0 : Nat) (σ : St) : Option (Int32 × St) :=
  ld σ (ch v0 7) 8 4 fun x1 =>
  cl (Machine_wordAt v0 x1 σ) fun x3 σ2 =>
  ld σ2 (ch v0 7) 8 4 fun x4 =>
  sa σ2 (ch v0 7) 8 4 (x4 + 4) fun σ5 =>
  some (x3, σ5)
def Machine_isFullFor (v0 : Nat) (v1 : Int32) (σ : St) : Option (Int32 × St) :=
  if ¬ v1 = 16 then
    some (0, σ)
  else
    if (σ v0 13) < 100 then
      some (0, σ)
    else
      some (1, σ)
def Machine_serve_B54 (v0 : Nat) (v2 : Int32) (t0 : Nat) (t1 : Int32) (t2 : Int32) (σ : St) : Option (St) :=
  sr σ t0 t1 t2 fun σ1 =>
  if v2 = 0 then
    nm (s2 σ1 v0 11 ((σ1 v0 11) + 0)) fun σ2 =>
    some σ2
  else
    nm (s2 σ1 v0 11 ((σ1 v0 11) + 1)) fun σ3 =>
    some σ3
def Machine_serve_B31 (v0 : Nat) (t0 : Int32) (σ : St) : Option (St) :=
  if t0 = 0 then
    Machine_serve_B54 v0 t0 (ch v0 7) 0 0 σ
  else
    ld σ (ch v0 9) 50 (σ v0 11) fun x1 =>
    Machine_serve_B54 v0 t0 (ch v0 7) 0 x1 σ
def Machine_serve (v0 : Nat) (v1 : Int32) (σ : St) : Option (St) :=
  if ¬ v1 = 32 then
    if ¬ v1 = 48 then
      if 100 ≤ (σ v0 13) then
        some σ
      else
        ld σ (ch v0 7) 8 3 fun x1 =>
        sa σ (ch v0 12) 100 (σ v0 13) x1 fun σ2 =>
        nm (s2 σ2 v0 13 ((σ2 v0 13) + 1)) fun σ3 =>
        some σ3
    else
      sa σ (ch v0 7) 8 0 (σ v0 13) fun σ4 =>
      some σ4
  else
    if (σ v0 10) ≤ (σ v0 11) then
      Machine_serve_B31 v0 0 σ
    else
      if 50 ≤ (σ v0 11) then
        Machine_serve_B31 v0 0 σ
      else
        Machine_serve_B31 v0 1 σ
def Machine_addressOf (v0 : Nat) (v1 : Nat) (σ : St) : Option (Int32 × St) :=
  cl (Instruction_base v1 σ) fun x2 σ1 =>
  cl (Machine_registerAt v0 x2 σ1) fun x4 σ3 =>
  cl (Instruction_index v1 σ3) fun x6 σ5 =>
  cl (Machine_registerAt v0 x6 σ5) fun x8 σ7 =>
  cl (Instruction_scale v1 σ7) fun x10 σ9 =>
  some ((x4 + (shl x8 x10)) + (σ9 v1 4), σ9)
def Machine_changesWord (v0 : Nat) (σ : St) : Option (Int32 × St) :=
  if (σ v0 1) = 4 then
    some (1, σ)
  else
    if (σ v0 1) = 6 then
      some (1, σ)
    else
      if ¬ (σ v0 1) = 7 then
        some (0, σ)
      else
        some (1, σ)
def Machine_giveLeft (v0 : Nat) (v1 : Nat) (v2 : Int32) (v3 : Int32) (σ : St) : Option (St) :=
  cl (Machine_changesWord v1 σ) fun x2 σ1 =>
  if x2 = 0 then
    cv (Machine_give v0 (σ1 v1 2) v3 σ1) fun σ3 =>
    some σ3
  else
    cv (Machine_giveWord v0 v2 v3 σ1) fun σ4 =>
    some σ4
def Machine_lacksWord (v0 : Nat) (v1 : Nat) (v2 : Int32) (σ : St) : Option (Int32 × St) :=
  if ¬ (σ v1 0) = 19 then
    if ¬ (σ v1 0) = 20 then
      cl (House_isMemoryForm (σ v1 1) σ) fun x2 σ1 =>
      if x2 = 0 then
        some (0, σ1)
      else
        if (σ1 v1 0) = 10 then
          some (0, σ1)
        else
          cl (House_isWord v2 σ1) fun x4 σ3 =>
          if ¬ x4 = 0 then
            some (0, σ3)
          else
            some (1, σ3)
    else
      cl (Machine_canPop v0 σ) fun x6 σ5 =>
      if ¬ x6 = 0 then
        some (0, σ5)
      else
        some (1, σ5)
  else
    cl (Machine_canPush v0 σ) fun x8 σ7 =>
    if ¬ x8 = 0 then
      some (0, σ7)
    else
      some (1, σ7)
def Machine_leftOf (v0 : Nat) (v1 : Nat) (v2 : Int32) (σ : St) : Option (Int32 × St) :=
  cl (Machine_changesWord v1 σ) fun x2 σ1 =>
  if x2 = 0 then
    cl (Machine_registerAt v0 (σ1 v1 2) σ1) fun x4 σ3 =>
    some (x4, σ3)
  else
    cl (Machine_wordAt v0 v2 σ1) fun x6 σ5 =>
    some (x6, σ5)
def Machine_readsUnknown_B113 (v1 : Nat) (t0 : Int32) (σ : St) : Option (Int32 × St) :=
  if (σ v1 0) = 10 then
    if t0 = 0 then
      some (0, σ)
    else
      some (0, σ)
  else
    if (σ v1 0) = 20 then
      if t0 = 0 then
        some (0, σ)
      else
        some (0, σ)
    else
      if ¬ (σ v1 0) = 8 then
        if t0 = 0 then
          some (0, σ)
        else
          some (1, σ)
      else
        if (σ v1 1) = 4 then
          if t0 = 0 then
            some (0, σ)
          else
            some (1, σ)
        else
          if t0 = 0 then
            some (0, σ)
          else
            some (0, σ)
def Machine_readsUnknown_B84 (v1 : Nat) (σ : St) : Option (Int32 × St) :=
  if (σ v1 1) < 1 then
    Machine_readsUnknown_B113 v1 0 σ
  else
    if 5 < (σ v1 1) then
      Machine_readsUnknown_B113 v1 0 σ
    else
      if ¬ (σ v1 2) = 1 then
        Machine_readsUnknown_B113 v1 0 σ
      else
        Machine_readsUnknown_B113 v1 1 σ
def Machine_readsUnknown_B66 (v1 : Nat) (σ : St) : Option (Int32 × St) :=
  if ¬ (σ v1 1) = 2 then
    Machine_readsUnknown_B84 v1 σ
  else
    if ¬ (σ v1 3) = 1 then
      Machine_readsUnknown_B84 v1 σ
    else
      some (1, σ)
def Machine_readsUnknown_B29 (v0 : Nat) (v1 : Nat) (σ : St) : Option (Int32 × St) :=
  if ¬ (σ v0 5) = 0 then
    cl (House_isMemoryForm (σ v1 1) σ) fun x2 σ1 =>
    if x2 = 0 then
      Machine_readsUnknown_B66 v1 σ1
    else
      cl (Instruction_base v1 σ1) fun x4 σ3 =>
      if x4 = 1 then
        some (1, σ3)
      else
        cl (Instruction_index v1 σ3) fun x6 σ5 =>
        if ¬ x6 = 1 then
          Machine_readsUnknown_B66 v1 σ5
        else
          some (1, σ5)
  else
    some (0, σ)
def Machine_readsUnknown (v0 : Nat) (v1 : Nat) (σ : St) : Option (Int32 × St) :=
  if (σ v1 0) = 2 then
    if ¬ (σ (ch v0 0) 0) = 2 then
      Machine_readsUnknown_B29 v0 v1 σ
    else
      some (1, σ)
  else
    if ¬ (σ v1 0) = 3 then
      Machine_readsUnknown_B29 v0 v1 σ
    else
      if ¬ (σ (ch v0 0) 0) = 2 then
        Machine_readsUnknown_B29 v0 v1 σ
      else
        some (1, σ)
def Machine_rightOf (v0 : Nat) (v1 : Nat) (v2 : Int32) (σ : St) : Option (Int32 × St) :=
  nm (σ v1 1) fun x1 =>
  if x1 = 2 then
    cl (Machine_registerAt v0 (σ v1 3) σ) fun x3 σ2 =>
    some (x3, σ2)
  else
  if x1 = 3 then
    cl (Machine_wordAt v0 v2 σ) fun x5 σ4 =>
    some (x5, σ4)
  else
  if x1 = 4 then
    cl (Machine_registerAt v0 (σ v1 2) σ) fun x7 σ6 =>
    some (x7, σ6)
  else
  some (σ v1 5, σ)
def Machine_perform_B223 (v0 : Nat) (v1 : Nat) (v2 : Int32) (σ : St) : Option (Int32 × St) :=
  cl (Machine_leftOf v0 v1 v2 σ) fun x2 σ1 =>
  cl (Machine_rightOf v0 v1 v2 σ1) fun x4 σ3 =>
  cl (Flags_reckon (ch v0 0) (σ v1 0) x2 x4 σ3) fun x6 σ5 =>
  cv (Machine_giveLeft v0 v1 v2 x6 σ5) fun σ7 =>
  some ((-1), σ7)
def Machine_perform_B196 (v0 : Nat) (v1 : Nat) (v2 : Int32) (σ : St) : Option (Int32 × St) :=
  cl (Machine_leftOf v0 v1 v2 σ) fun x2 σ1 =>
  cl (Machine_rightOf v0 v1 v2 σ1) fun x4 σ3 =>
  cl (Flags_reckon (ch v0 0) (σ v1 0) x2 x4 σ3) fun x6 σ5 =>
  some ((-1), σ5)
def Machine_perform_B30 (v0 : Nat) (v1 : Nat) (t0 : Int32) (σ : St) : Option (Int32 × St) :=
  cl (Machine_lacksWord v0 v1 t0 σ) fun x2 σ1 =>
  if x2 = 0 then
    nm (σ1 v1 0) fun x3 =>
    if x3 = 7 then
      Machine_perform_B196 v0 v1 t0 σ1
    else
    if x3 = 8 then
      cl (Machine_rightOf v0 v1 t0 σ1) fun x5 σ4 =>
      cv (Machine_giveLeft v0 v1 t0 x5 σ4) fun σ6 =>
      some ((-1), σ6)
    else
    if x3 = 9 then
      Machine_perform_B196 v0 v1 t0 σ1
    else
    if x3 = 10 then
      cv (Machine_give v0 (σ1 v1 2) t0 σ1) fun σ7 =>
      some ((-1), σ7)
    else
    if x3 = 11 then
      Machine_perform_B223 v0 v1 t0 σ1
    else
    if x3 = 12 then
      Machine_perform_B223 v0 v1 t0 σ1
    else
    if x3 = 13 then
      Machine_perform_B223 v0 v1 t0 σ1
    else
    if x3 = 14 then
      Machine_perform_B223 v0 v1 t0 σ1
    else
    if x3 = 15 then
      Machine_perform_B223 v0 v1 t0 σ1
    else
    if x3 = 16 then
      Machine_perform_B223 v0 v1 t0 σ1
    else
    if x3 = 17 then
      Machine_perform_B223 v0 v1 t0 σ1
    else
    if x3 = 18 then
      Machine_perform_B223 v0 v1 t0 σ1
    else
    if x3 = 19 then
      if ¬ (σ1 v1 1) = 8 then
        cl (Machine_registerAt v0 (σ1 v1 2) σ1) fun x9 σ8 =>
        cv (Machine_push v0 x9 σ8) fun σ10 =>
        some ((-1), σ10)
      else
        cv (Machine_push v0 (σ1 v1 5) σ1) fun σ11 =>
        some ((-1), σ11)
    else
    if x3 = 20 then
      cl (Machine_pop v0 σ1) fun x13 σ12 =>
      cv (Machine_give v0 (σ1 v1 2) x13 σ12) fun σ14 =>
      some ((-1), σ14)
    else
    if x3 = 21 then
      some ((-1), σ1)
    else
    Machine_perform_B223 v0 v1 t0 σ1
  else
    some (3, σ1)
def Machine_perform (v0 : Nat) (v1 : Nat) (σ : St) : Option (Int32 × St) :=
  cl (Machine_readsUnknown v0 v1 σ) fun x2 σ1 =>
  if x2 = 0 then
    cl (House_isMemoryForm (σ1 v1 1) σ1) fun x4 σ3 =>
    if x4 = 0 then
      Machine_perform_B30 v0 v1 0 σ3
    else
      cl (Machine_addressOf v0 v1 σ3) fun x6 σ5 =>
      Machine_perform_B30 v0 v1 x6 σ5
  else
    some (7, σ1)
def Runner_serve (v0 : Nat) (v1 : Int32) (σ : St) : Option (Int32 × St) :=
  if ¬ v1 = 0 then
    cl (Machine_canPop (ch v0 2) σ) fun x2 σ1 =>
    if ¬ x2 = 0 then
      cl (Machine_isFullFor (ch v0 2) v1 σ1) fun x4 σ3 =>
      if x4 = 0 then
        cv (Machine_serve (ch v0 2) v1 σ3) fun σ5 =>
        cl (Machine_pop (ch v0 2) σ5) fun x7 σ6 =>
        nm (s2 σ6 (ch v0 2) 1 (x7 &&& (-16))) fun σ8 =>
        nm (s2 σ8 (ch v0 2) 2 ((σ8 (ch v0 2) 2) + 1)) fun σ9 =>
        some ((-1), σ9)
      else
        some (6, σ3)
    else
      some (3, σ1)
  else
    nm (s2 σ (ch v0 2) 2 ((σ (ch v0 2) 2) + 1)) fun σ10 =>
    some (2, σ10)
def Runner_turnOff_B83 (v0 : Nat) (v1 : Nat) (v2 : Int32) (v4 : Int32) (σ : St) : Option (Int32 × St) :=
  if ¬ (σ v1 0) = 25 then
    nm (s2 σ (ch v0 2) 1 v4) fun σ1 =>
    some ((-1), σ1)
  else
    cl (Flags_holds (ch (ch v0 2) 0) (σ v1 2) σ) fun x3 σ2 =>
    if ¬ x3 = 0 then
      nm (s2 σ2 (ch v0 2) 1 v4) fun σ4 =>
      some ((-1), σ4)
    else
      nm (s2 σ2 (ch v0 2) 1 v2) fun σ5 =>
      some ((-1), σ5)
def Runner_turnOff_B69 (v0 : Nat) (v1 : Nat) (v2 : Int32) (v3 : Int32) (t0 : Int32) (σ : St) : Option (Int32 × St) :=
  if v3 = 0 then
    Runner_turnOff_B83 v0 v1 v2 t0 σ
  else
    cv (Machine_push (ch v0 2) v2 σ) fun σ1 =>
    Runner_turnOff_B83 v0 v1 v2 t0 σ1
def Runner_turnOff_B40 (v0 : Nat) (v1 : Nat) (v2 : Int32) (v3 : Int32) (σ : St) : Option (Int32 × St) :=
  if ¬ (σ v1 1) = 8 then
    cl (Machine_registerAt (ch v0 2) (σ v1 2) σ) fun x2 σ1 =>
    Runner_turnOff_B69 v0 v1 v2 v3 x2 σ1
  else
    Runner_turnOff_B69 v0 v1 v2 v3 (v2 + (σ v1 5)) σ
def Runner_turnOff_B23 (v0 : Nat) (v1 : Nat) (v2 : Int32) (t0 : Int32) (σ : St) : Option (Int32 × St) :=
  if t0 = 0 then
    Runner_turnOff_B40 v0 v1 v2 t0 σ
  else
    cl (Machine_canPush (ch v0 2) σ) fun x2 σ1 =>
    if ¬ x2 = 0 then
      Runner_turnOff_B40 v0 v1 v2 t0 σ1
    else
      some (3, σ1)
def Runner_turnOff (v0 : Nat) (v1 : Nat) (v2 : Int32) (σ : St) : Option (Int32 × St) :=
  if (σ v1 0) = 26 then
    Runner_turnOff_B23 v0 v1 v2 1 σ
  else
    if ¬ (σ v1 0) = 28 then
      Runner_turnOff_B23 v0 v1 v2 0 σ
    else
      Runner_turnOff_B23 v0 v1 v2 1 σ
def Runner_step_B144 (v0 : Nat) (v2 : Int32) (v5 : Int32) (σ : St) : Option (Int32 × St) :=
  nm (s2 σ (ch v0 2) 2 ((σ (ch v0 2) 2) + 1)) fun σ1 =>
  cl (Strip_markAt (ch v0 0) v2 σ1) fun x3 σ2 =>
  if ¬ x3 = 0 then
    nm (s2 σ2 (ch v0 2) 4 ((σ1 (ch v0 2) 4) + 0)) fun σ4 =>
    some (v5, σ4)
  else
    nm (s2 σ2 (ch v0 2) 4 ((σ1 (ch v0 2) 4) + 1)) fun σ5 =>
    some (v5, σ5)
def Runner_step (v0 : Nat) (v1 : Int32) (σ : St) : Option (Int32 × St) :=
  nm (v1 - 256) fun x1 =>
  if v1 < 256 then
    some (4, σ)
  else
    if x1 < (σ (ch v0 0) 2) then
      cl (Reader_read (ch v0 1) x1 σ) fun x3 σ2 =>
      if x3 = 0 then
        some (5, σ2)
      else
        if ¬ (σ2 (ch (ch v0 1) 0) 0) = 23 then
          nm (v1 + (σ2 (ch (ch v0 1) 0) 6)) fun x4 =>
          if (σ2 (ch (ch v0 1) 0) 0) < 24 then
            if (σ2 (ch (ch v0 1) 0) 0) = 22 then
              Runner_step_B144 v0 x1 1 σ2
            else
              cl (Machine_perform (ch v0 2) (ch (ch v0 1) 0) σ2) fun x6 σ5 =>
              if ¬ x6 = (-1) then
                nm (s2 σ5 (ch v0 2) 1 v1) fun σ7 =>
                if x6 = (-1) then
                  Runner_step_B144 v0 x1 x6 σ7
                else
                  if ¬ x6 = 1 then
                    some (x6, σ7)
                  else
                    Runner_step_B144 v0 x1 x6 σ7
              else
                nm (s2 σ5 (ch v0 2) 1 x4) fun σ8 =>
                if x6 = (-1) then
                  Runner_step_B144 v0 x1 x6 σ8
                else
                  if ¬ x6 = 1 then
                    some (x6, σ8)
                  else
                    Runner_step_B144 v0 x1 x6 σ8
          else
            cl (Runner_turnOff v0 (ch (ch v0 1) 0) x4 σ2) fun x10 σ9 =>
            if x10 = (-1) then
              Runner_step_B144 v0 x1 x10 σ9
            else
              if ¬ x10 = 1 then
                some (x10, σ9)
              else
                Runner_step_B144 v0 x1 x10 σ9
        else
          some (5, σ2)
    else
      some (4, σ)
def Runner_goOn_B4 : Nat → Nat → Int32 → Int32 → Int32 → St → Option (Int32 × St)
  | 0, _, _, _, _, _ => none
  | n + 1, v0, v1, v2, v3, σ =>
    if v1 ≤ v3 then
      if ¬ v2 = (-1) then
        nm (s2 σ (ch v0 2) 3 v2) fun σ1 =>
        some (σ1 (ch v0 2) 3, σ1)
      else
        nm (s2 σ (ch v0 2) 3 0) fun σ2 =>
        some (σ2 (ch v0 2) 3, σ2)
    else
      if ¬ v2 = (-1) then
        if ¬ v2 = (-1) then
          nm (s2 σ (ch v0 2) 3 v2) fun σ3 =>
          some (σ3 (ch v0 2) 3, σ3)
        else
          nm (s2 σ (ch v0 2) 3 0) fun σ4 =>
          some (σ4 (ch v0 2) 3, σ4)
      else
        cl (House_isService (σ (ch v0 2) 1) σ) fun x6 σ5 =>
        if x6 = 0 then
          cl (Runner_step v0 (σ5 (ch v0 2) 1) σ5) fun x8 σ7 =>
          nm (v3 + 1) fun x9 =>
          Runner_goOn_B4 n v0 v1 x8 x9 σ7
        else
          cl (Runner_serve v0 (σ5 (ch v0 2) 1) σ5) fun x11 σ10 =>
          nm (v3 + 1) fun x12 =>
          Runner_goOn_B4 n v0 v1 x11 x12 σ10
def Runner_goOn (v0 : Nat) (v1 : Int32) (σ : St) : Option (Int32 × St) :=
  Runner_goOn_B4 FU v0 v1 (-1) 0 σ
def Walker_goTo (v0 : Nat) (v1 : Int32) (σ : St) : Option (Int32 × St) :=
  nm (s2 σ (ch v0 1) 2 ((σ (ch v0 1) 2) + 1)) fun σ1 =>
  if 0 ≤ v1 then
    cl (Program_pastLabels (ch v0 0) v1 σ1) fun x3 σ2 =>
    nm (s2 σ2 v0 3 x3) fun σ4 =>
    some ((-1), σ4)
  else
    nm (s2 σ1 v0 3 v1) fun σ5 =>
    some ((-1), σ5)
def Walker_standStill (v0 : Nat) (v1 : Int32) (σ : St) : Option (Int32 × St) :=
  nm (s2 σ (ch v0 1) 2 ((σ (ch v0 1) 2) + 1)) fun σ1 =>
  some (v1, σ1)
def Walker_serve (v0 : Nat) (v1 : Int32) (σ : St) : Option (Int32 × St) :=
  if ¬ v1 = 0 then
    cl (Machine_canPop (ch v0 1) σ) fun x2 σ1 =>
    if ¬ x2 = 0 then
      cl (Machine_registerAt (ch v0 1) 4 σ1) fun x4 σ3 =>
      cl (Machine_wordAt (ch v0 1) x4 σ3) fun x6 σ5 =>
      cl (Program_landingAt (ch v0 0) x6 σ5) fun x8 σ7 =>
      if ¬ x8 = (-100) then
        cl (Machine_isFullFor (ch v0 1) v1 σ7) fun x10 σ9 =>
        if x10 = 0 then
          cv (Machine_serve (ch v0 1) v1 σ9) fun σ11 =>
          cl (Machine_pop (ch v0 1) σ11) fun x13 σ12 =>
          cl (Walker_goTo v0 x8 σ12) fun x15 σ14 =>
          some (x15, σ14)
        else
          some (6, σ9)
      else
        some (9, σ7)
    else
      some (3, σ1)
  else
    cl (Walker_standStill v0 2 σ) fun x17 σ16 =>
    some (x17, σ16)
def Walker_addressBehind (v0 : Nat) (σ : St) : Option (Int32 × St) :=
  cl (Program_addressOf (ch v0 0) (σ v0 3) σ) fun x2 σ1 =>
  some (x2 + 5, σ1)
def Walker_callTo (v0 : Nat) (v1 : Int32) (σ : St) : Option (Int32 × St) :=
  cl (Machine_canPush (ch v0 1) σ) fun x2 σ1 =>
  if ¬ x2 = 0 then
    cl (Walker_addressBehind v0 σ1) fun x4 σ3 =>
    cv (Machine_push (ch v0 1) x4 σ3) fun σ5 =>
    cl (Walker_goTo v0 v1 σ5) fun x7 σ6 =>
    some (x7, σ6)
  else
    some (3, σ1)
def Walker_goBack (v0 : Nat) (σ : St) : Option (Int32 × St) :=
  cl (Machine_canPop (ch v0 1) σ) fun x2 σ1 =>
  if ¬ x2 = 0 then
    cl (Machine_registerAt (ch v0 1) 4 σ1) fun x4 σ3 =>
    cl (Machine_wordAt (ch v0 1) x4 σ3) fun x6 σ5 =>
    cl (Program_landingAt (ch v0 0) x6 σ5) fun x8 σ7 =>
    if ¬ x8 = (-100) then
      cl (Machine_pop (ch v0 1) σ7) fun x10 σ9 =>
      cv (Machine_give (ch v0 1) 1 0 σ9) fun σ11 =>
      nm (s2 σ11 (ch v0 1) 5 1) fun σ12 =>
      cv (Flags_setAll (ch (ch v0 1) 0) 2 σ12) fun σ13 =>
      cl (Walker_goTo v0 x8 σ13) fun x15 σ14 =>
      some (x15, σ14)
    else
      some (9, σ7)
  else
    some (3, σ1)
def Walker_goByRegister_B74 (v0 : Nat) (v3 : Int32) (σ : St) : Option (Int32 × St) :=
  cv (Flags_setAll (ch (ch v0 1) 0) 2 σ) fun σ1 =>
  cl (Walker_goTo v0 v3 σ1) fun x3 σ2 =>
  some (x3, σ2)
def Walker_goByRegister_B59 (v0 : Nat) (v2 : Int32) (v3 : Int32) (σ : St) : Option (Int32 × St) :=
  if v2 = 0 then
    Walker_goByRegister_B74 v0 v3 σ
  else
    cl (Walker_addressBehind v0 σ) fun x2 σ1 =>
    cv (Machine_push (ch v0 1) x2 σ1) fun σ3 =>
    Walker_goByRegister_B74 v0 v3 σ3
def Walker_goByRegister_B18 (v0 : Nat) (v1 : Int32) (v2 : Int32) (σ : St) : Option (Int32 × St) :=
  cl (Machine_registerAt (ch v0 1) v1 σ) fun x2 σ1 =>
  cl (Program_landingAt (ch v0 0) x2 σ1) fun x4 σ3 =>
  if ¬ x4 = (-100) then
    if v2 = 0 then
      Walker_goByRegister_B59 v0 v2 x4 σ3
    else
      cl (Machine_canPush (ch v0 1) σ3) fun x6 σ5 =>
      if ¬ x6 = 0 then
        Walker_goByRegister_B59 v0 v2 x4 σ5
      else
        some (3, σ5)
  else
    some (9, σ3)
def Walker_goByRegister (v0 : Nat) (v1 : Int32) (v2 : Int32) (σ : St) : Option (Int32 × St) :=
  if ¬ v1 = 1 then
    Walker_goByRegister_B18 v0 v1 v2 σ
  else
    if (σ (ch v0 1) 5) = 0 then
      Walker_goByRegister_B18 v0 v1 v2 σ
    else
      some (7, σ)
def Walker_stepFlow (v0 : Nat) (v1 : Int32) (v2 : Int32) (v3 : Int32) (σ : St) : Option (Int32 × St) :=
  if v1 = 1 then
    cl (Program_labelItem (ch v0 0) v2 σ) fun x2 σ1 =>
    cl (Walker_goTo v0 x2 σ1) fun x4 σ3 =>
    some (x4, σ3)
  else
  if v1 = 2 then
    cl (Flags_isUnknownTo (ch (ch v0 1) 0) v3 σ) fun x6 σ5 =>
    if x6 = 0 then
      cl (Flags_holds (ch (ch v0 1) 0) v3 σ5) fun x8 σ7 =>
      if x8 = 0 then
        cl (Walker_goTo v0 ((σ7 v0 3) + 1) σ7) fun x10 σ9 =>
        some (x10, σ9)
      else
        cl (Program_labelItem (ch v0 0) v2 σ7) fun x12 σ11 =>
        cl (Walker_goTo v0 x12 σ11) fun x14 σ13 =>
        some (x14, σ13)
    else
      some (7, σ5)
  else
  if v1 = 3 then
    cl (Program_labelItem (ch v0 0) v2 σ) fun x16 σ15 =>
    cl (Walker_callTo v0 x16 σ15) fun x18 σ17 =>
    some (x18, σ17)
  else
  if v1 = 4 then
    cl (Walker_callTo v0 ((-1) - v2) σ) fun x20 σ19 =>
    some (x20, σ19)
  else
  if v1 = 5 then
    cl (Walker_goByRegister v0 v2 0 σ) fun x22 σ21 =>
    some (x22, σ21)
  else
  if v1 = 6 then
    cl (Walker_goByRegister v0 v2 1 σ) fun x24 σ23 =>
    some (x24, σ23)
  else
  if v1 = 7 then
    cl (Walker_goBack v0 σ) fun x26 σ25 =>
    some (x26, σ25)
  else
  cl (Program_labelItem (ch v0 0) v2 σ) fun x28 σ27 =>
  cl (Program_addressOf (ch v0 0) x28 σ27) fun x30 σ29 =>
  cv (Machine_give (ch v0 1) v3 x30 σ29) fun σ31 =>
  cl (Walker_goTo v0 ((σ31 v0 3) + 1) σ31) fun x33 σ32 =>
  some (x33, σ32)
def Walker_stepPlain (v0 : Nat) (σ : St) : Option (Int32 × St) :=
  cv (Program_loadItem (ch v0 0) (σ v0 3) (ch v0 2) σ) fun σ1 =>
  if ¬ (σ1 (ch v0 2) 0) = 22 then
    cl (Machine_perform (ch v0 1) (ch v0 2) σ1) fun x3 σ2 =>
    if ¬ x3 = (-1) then
      some (x3, σ2)
    else
      cl (Walker_goTo v0 ((σ2 v0 3) + 1) σ2) fun x5 σ4 =>
      some (x5, σ4)
  else
    cl (Walker_standStill v0 1 σ1) fun x7 σ6 =>
    some (x7, σ6)
def Walker_goOn_B145 (v0 : Nat) (v2 : Int32) (σ : St) : Option (Int32 × St) :=
  cl (Program_addressOf (ch v0 0) (σ v0 3) σ) fun x2 σ1 =>
  nm (s2 σ1 (ch v0 1) 1 x2) fun σ3 =>
  if ¬ v2 = (-1) then
    nm (s2 σ3 (ch v0 1) 3 v2) fun σ4 =>
    some (σ4 (ch v0 1) 3, σ4)
  else
    nm (s2 σ3 (ch v0 1) 3 0) fun σ5 =>
    some (σ5 (ch v0 1) 3, σ5)
def Walker_goOn_B16 : Nat → Nat → Int32 → Int32 → Int32 → St → Option (Int32 × St)
  | 0, _, _, _, _, _ => none
  | n + 1, v0, v1, v2, v3, σ =>
    if v1 ≤ v3 then
      Walker_goOn_B145 v0 v2 σ
    else
      if ¬ v2 = (-1) then
        Walker_goOn_B145 v0 v2 σ
      else
        if 0 ≤ (σ v0 3) then
          cl (Program_hasItem (ch v0 0) (σ v0 3) σ) fun x2 σ1 =>
          if ¬ x2 = 0 then
            ld σ1 (ch (ch v0 0) 0) 120 (σ1 v0 3) fun x3 =>
            if ¬ x3 = 9 then
              ld σ1 (ch (ch v0 0) 0) 120 (σ1 v0 3) fun x4 =>
              ld σ1 (ch (ch v0 0) 1) 120 (σ1 v0 3) fun x5 =>
              ld σ1 (ch (ch v0 0) 2) 120 (σ1 v0 3) fun x6 =>
              cl (Walker_stepFlow v0 x4 x5 x6 σ1) fun x8 σ7 =>
              nm (v3 + 1) fun x9 =>
              Walker_goOn_B16 n v0 v1 x8 x9 σ7
            else
              cl (Walker_stepPlain v0 σ1) fun x11 σ10 =>
              nm (v3 + 1) fun x12 =>
              Walker_goOn_B16 n v0 v1 x11 x12 σ10
          else
            cl (Walker_standStill v0 1 σ1) fun x14 σ13 =>
            nm (v3 + 1) fun x15 =>
            Walker_goOn_B16 n v0 v1 x14 x15 σ13
        else
          cl (Walker_serve v0 (((-1) - (σ v0 3)) * 16) σ) fun x17 σ16 =>
          nm (v3 + 1) fun x18 =>
          Walker_goOn_B16 n v0 v1 x17 x18 σ16
def Walker_goOn (v0 : Nat) (v1 : Int32) (σ : St) : Option (Int32 × St) :=
  cl (Program_pastLabels (ch v0 0) 0 σ) fun x2 σ1 =>
  nm (s2 σ1 v0 3 x2) fun σ3 =>
  Walker_goOn_B16 FU v0 v1 (-1) 0 σ3
def House_feed (v0 : Nat) (v1 : Int32) (v2 : Int32) (v3 : Int32) (v4 : Int32) (v5 : Int32) (σ : St) : Option (Int32 × St) :=
  if (σ (ch v0 0) 2) ≤ 1080 then
    cv (Strip_addFour (ch v0 0) v1 σ) fun σ1 =>
    cv (Strip_addFour (ch v0 0) v2 σ1) fun σ2 =>
    cv (Strip_addFour (ch v0 0) v3 σ2) fun σ3 =>
    cv (Strip_addFour (ch v0 0) v4 σ3) fun σ4 =>
    cv (Strip_addFour (ch v0 0) v5 σ4) fun σ5 =>
    some (1, σ5)
  else
    some (0, σ)
def House_end (v0 : Nat) (v1 : Int32) (σ : St) : Option (Int32 × St) :=
  if v1 < 0 then
    some (0, σ)
  else
    if v1 ≤ (σ (ch v0 0) 2) then
      nm (s2 σ (ch v0 0) 2 v1) fun σ1 =>
      some (1, σ1)
    else
      some (0, σ)
def House_forgetRuns (v0 : Nat) (σ : St) : Option (St) :=
  nm (s2 σ (ch v0 9) 6 0) fun σ1 =>
  nm (s2 σ1 (ch v0 10) 6 0) fun σ2 =>
  some σ2
def House_check (v0 : Nat) (σ : St) : Option (Int32 × St) :=
  cl (Policy_findFault (ch v0 1) σ) fun x2 σ1 =>
  nm (s2 σ1 v0 14 x2) fun σ3 =>
  nm (s2 σ3 v0 15 (σ3 (ch v0 1) 0)) fun σ4 =>
  if ¬ (σ4 v0 14) = 0 then
    nm (s2 σ4 (ch v0 0) 2 0) fun σ5 =>
    some (σ5 v0 14, σ5)
  else
    cv (Strip_copyFrom (ch v0 2) (ch v0 0) σ4) fun σ6 =>
    nm (s2 σ6 v0 13 0) fun σ7 =>
    cv (House_forgetRuns v0 σ7) fun σ8 =>
    nm (s2 σ8 (ch v0 0) 2 0) fun σ9 =>
    some (σ9 v0 14, σ9)
def House_fault (v0 : Nat) (v1 : Int32) (σ : St) : Option (Int32 × St) :=
  if ¬ v1 = 0 then
    if ¬ v1 = 1 then
      some ((-1), σ)
    else
      some (σ v0 15, σ)
  else
    some (σ v0 14, σ)
def House_isMemory (v0 : Int32) (σ : St) : Option (Int32 × St) :=
  nm (v0 &&& 15) fun x1 =>
  nm ((shr v0 4) &&& 15) fun x2 =>
  nm (shr v0 8) fun x3 =>
  if x3 < 0 then
    some (0, σ)
  else
    if 3 < x3 then
      some (0, σ)
    else
      if 8 < x1 then
        some (0, σ)
      else
        if 8 < x2 then
          some (0, σ)
        else
          if ¬ x2 = 4 then
            if ¬ x2 = 8 then
              some (1, σ)
            else
              if ¬ x3 = 0 then
                some (0, σ)
              else
                some (1, σ)
          else
            some (0, σ)
def House_isPlain_B85 (v0 : Int32) (v4 : Int32) (σ : St) : Option (Int32 × St) :=
  cl (House_isShift v0 σ) fun x2 σ1 =>
  if x2 = 0 then
    some (1, σ1)
  else
    if v4 < 0 then
      some (0, σ1)
    else
      if 255 < v4 then
        some (0, σ1)
      else
        some (1, σ1)
def House_isPlain_B69 (v0 : Int32) (v1 : Int32) (v3 : Int32) (v4 : Int32) (σ : St) : Option (Int32 × St) :=
  cl (House_isMemoryForm v1 σ) fun x2 σ1 =>
  if x2 = 0 then
    House_isPlain_B85 v0 v4 σ1
  else
    cl (House_isMemory v3 σ1) fun x4 σ3 =>
    if ¬ x4 = 0 then
      House_isPlain_B85 v0 v4 σ3
    else
      some (0, σ3)
def House_isPlain_B55 (v0 : Int32) (v1 : Int32) (v3 : Int32) (v4 : Int32) (σ : St) : Option (Int32 × St) :=
  if ¬ v1 = 2 then
    House_isPlain_B69 v0 v1 v3 v4 σ
  else
    cl (House_isRegister v3 σ) fun x2 σ1 =>
    if ¬ x2 = 0 then
      House_isPlain_B69 v0 v1 v3 v4 σ1
    else
      some (0, σ1)
def House_isPlain (v0 : Int32) (v1 : Int32) (v2 : Int32) (v3 : Int32) (v4 : Int32) (σ : St) : Option (Int32 × St) :=
  if v0 < 0 then
    some (0, σ)
  else
    if 23 ≤ v0 then
      some (0, σ)
    else
      if v1 < 0 then
        some (0, σ)
      else
        if 8 < v1 then
          some (0, σ)
        else
          fo v0 fun x1 =>
          if ¬ ((shr x1 v1) &&& 1) = 0 then
            if v1 < 1 then
              House_isPlain_B55 v0 v1 v3 v4 σ
            else
              if 5 < v1 then
                House_isPlain_B55 v0 v1 v3 v4 σ
              else
                cl (House_isRegister v2 σ) fun x3 σ2 =>
                if ¬ x3 = 0 then
                  House_isPlain_B55 v0 v1 v3 v4 σ2
                else
                  some (0, σ2)
          else
            some (0, σ)
def House_plain (v0 : Nat) (v1 : Int32) (v2 : Int32) (v3 : Int32) (v4 : Int32) (v5 : Int32) (v6 : Int32) (σ : St) : Option (Int32 × St) :=
  cl (Program_isFull (ch v0 5) σ) fun x2 σ1 =>
  if ¬ x2 = 0 then
    some ((-1), σ1)
  else
    cl (House_isPlain v1 v2 v3 v4 v6 σ1) fun x4 σ3 =>
    if ¬ x4 = 0 then
      cv (Program_addPlain (ch v0 5) v1 v2 v3 v4 v5 v6 σ3) fun σ5 =>
      some (σ5 (ch v0 5) 4, σ5)
    else
      some ((-1), σ3)
def House_isFlow_B114 (v1 : Int32) (σ : St) : Option (Int32 × St) :=
  cl (House_isRegister v1 σ) fun x2 σ1 =>
  if x2 = 0 then
    some (0, σ1)
  else
    if v1 = 4 then
      some (0, σ1)
    else
      some (1, σ1)
def House_isFlow (v0 : Int32) (v1 : Int32) (v2 : Int32) (σ : St) : Option (Int32 × St) :=
  if v0 = 0 then
    cl (House_isLabel v1 σ) fun x2 σ1 =>
    if x2 = 0 then
      some (0, σ1)
    else
      if v2 = 0 then
        some (1, σ1)
      else
        if ¬ v2 = 1 then
          some (0, σ1)
        else
          some (1, σ1)
  else
  if v0 = 1 then
    cl (House_isLabel v1 σ) fun x4 σ3 =>
    zb x4 <|
    some (x4, σ3)
  else
  if v0 = 2 then
    cl (House_isLabel v1 σ) fun x6 σ5 =>
    if x6 = 0 then
      some (0, σ5)
    else
      cl (House_isCondition v2 σ5) fun x8 σ7 =>
      if x8 = 0 then
        some (0, σ7)
      else
        some (1, σ7)
  else
  if v0 = 3 then
    cl (House_isLabel v1 σ) fun x10 σ9 =>
    zb x10 <|
    some (x10, σ9)
  else
  if v0 = 4 then
    if v1 < 0 then
      some (0, σ)
    else
      if 3 < v1 then
        some (0, σ)
      else
        some (1, σ)
  else
  if v0 = 5 then
    House_isFlow_B114 v1 σ
  else
  if v0 = 6 then
    House_isFlow_B114 v1 σ
  else
  if v0 = 7 then
    some (1, σ)
  else
  if v0 = 8 then
    cl (House_isLabel v1 σ) fun x12 σ11 =>
    if x12 = 0 then
      some (0, σ11)
    else
      cl (House_isRegister v2 σ11) fun x14 σ13 =>
      if x14 = 0 then
        some (0, σ13)
      else
        some (1, σ13)
  else
  some (0, σ)
def House_flow (v0 : Nat) (v1 : Int32) (v2 : Int32) (v3 : Int32) (σ : St) : Option (Int32 × St) :=
  cl (Program_isFull (ch v0 5) σ) fun x2 σ1 =>
  if ¬ x2 = 0 then
    some ((-1), σ1)
  else
    cl (House_isFlow v1 v2 v3 σ1) fun x4 σ3 =>
    if ¬ x4 = 0 then
      cv (Program_addFlow (ch v0 5) v1 v2 v3 σ3) fun σ5 =>
      some (σ5 (ch v0 5) 4, σ5)
    else
      some ((-1), σ3)
def House_clear (v0 : Nat) (σ : St) : Option (Int32 × St) :=
  nm (σ (ch v0 5) 4) fun x1 =>
  nm (s2 σ (ch v0 5) 4 0) fun σ2 =>
  some (x1, σ2)
def House_build (v0 : Nat) (σ : St) : Option (Int32 × St) :=
  cl (Builder_findFault (ch v0 6) σ) fun x2 σ1 =>
  nm (s2 σ1 v0 14 x2) fun σ3 =>
  nm (s2 σ3 v0 15 (σ3 (ch v0 6) 0)) fun σ4 =>
  if ¬ (σ4 v0 14) = 0 then
    some (σ4 v0 14, σ4)
  else
    cv (Builder_writeCode (ch v0 6) σ4) fun σ5 =>
    cl (Policy_findFault (ch v0 3) σ5) fun x7 σ6 =>
    cv (Program_copyFrom (ch v0 7) (ch v0 5) σ6) fun σ8 =>
    nm (s2 σ8 v0 13 1) fun σ9 =>
    cv (House_forgetRuns v0 σ9) fun σ10 =>
    some (σ10 v0 14, σ10)
def House_size (v0 : Nat) (σ : St) : Option (Int32 × St) :=
  some (σ (ch v0 2) 2, σ)
def House_code (v0 : Nat) (v1 : Int32) (σ : St) : Option (Int32 × St) :=
  cl (Strip_byteAt (ch v0 2) v1 σ) fun x2 σ1 =>
  some (x2, σ1)
def House_place (v0 : Nat) (v1 : Int32) (v2 : Int32) (σ : St) : Option (Int32 × St) :=
  if ¬ (σ v0 13) = 0 then
    if v1 = 0 then
      cl (Program_itemPlace (ch v0 7) v2 σ) fun x2 σ1 =>
      some (x2, σ1)
    else
    if v1 = 1 then
      cl (Program_labelItem (ch v0 7) v2 σ) fun x4 σ3 =>
      cl (Program_itemPlace (ch v0 7) x4 σ3) fun x6 σ5 =>
      some (x6, σ5)
    else
    if v1 = 2 then
      some (σ (ch v0 7) 4, σ)
    else
    some ((-1), σ)
  else
    some ((-1), σ)
def House_set (v0 : Nat) (v1 : Int32) (v2 : Int32) (v3 : Int32) (σ : St) : Option (Int32 × St) :=
  if v1 = 0 then
    cl (House_isRegister v2 σ) fun x2 σ1 =>
    if ¬ x2 = 0 then
      cv (Machine_give (ch v0 8) v2 v3 σ1) fun σ3 =>
      some (1, σ3)
    else
      some (0, σ1)
  else
  if v1 = 1 then
    cl (House_isWord v2 σ) fun x5 σ4 =>
    if ¬ x5 = 0 then
      cv (Machine_giveWord (ch v0 8) v2 v3 σ4) fun σ6 =>
      some (1, σ6)
    else
      some (0, σ4)
  else
  if v1 = 2 then
    cl (Machine_addInput (ch v0 8) v3 σ) fun x8 σ7 =>
    zb x8 <|
    some (x8, σ7)
  else
  if v1 = 3 then
    cv (Machine_forget (ch v0 8) σ) fun σ9 =>
    some (1, σ9)
  else
  some (0, σ)
def House_data_B15 (v2 : Int32) (t0 : Nat) (σ : St) : Option (Int32 × St) :=
  if (σ t0 6) = 0 then
    some ((-1), σ)
  else
    cl (Machine_byteAt t0 v2 σ) fun x2 σ1 =>
    some (x2, σ1)
def House_data (v0 : Nat) (v1 : Int32) (v2 : Int32) (σ : St) : Option (Int32 × St) :=
  if v1 = 0 then
    House_data_B15 v2 (ch v0 9) σ
  else
    House_data_B15 v2 (ch v0 10) σ
def Mo_thrown (v0 : Nat) (σ : St) : Option (Int32 × St) :=
  some (σ v0 0, σ)
def Mo_throwing (v0 : Nat) (v1 : Int32) (v2 : Int32) (σ : St) : Option (Int32 × St) :=
  if v1 = 0 then
    if v2 = 0 then
      nm (s2 σ v0 0 0) fun σ1 =>
      if (σ1 v0 0) ≤ 0 then
        some (0, σ1)
      else
        some (1, σ1)
    else
      nm (s2 σ v0 0 2) fun σ2 =>
      if (σ2 v0 0) ≤ 0 then
        some (0, σ2)
      else
        some (1, σ2)
  else
    nm (s2 σ v0 0 1) fun σ3 =>
    if (σ3 v0 0) ≤ 0 then
      some (0, σ3)
    else
      some (1, σ3)
def Mo_word_B3 : Nat → Nat → Int32 → Int32 → St → Option (St)
  | 0, _, _, _, _ => none
  | n + 1, v0, v1, v2, σ =>
    if v2 < 0 then
      some σ
    else
      sa σ (ch v0 1) 1100 (σ v0 2) ((shr v1 v2) &&& 255) fun σ1 =>
      nm (s2 σ1 v0 2 ((σ1 v0 2) + 1)) fun σ2 =>
      nm (v2 + (-8)) fun x3 =>
      Mo_word_B3 n v0 v1 x3 σ2
def Mo_word (v0 : Nat) (v1 : Int32) (σ : St) : Option (St) :=
  Mo_word_B3 FU v0 v1 24 σ
def Mo_feed (v0 : Nat) (v1 : Int32) (v2 : Int32) (v3 : Int32) (v4 : Int32) (v5 : Int32) (σ : St) : Option (Int32 × St) :=
  nm (s2 σ v0 0 0) fun σ1 =>
  if ((σ1 v0 2) + 20) ≤ 1100 then
    cv (Mo_word v0 v1 σ1) fun σ2 =>
    cv (Mo_word v0 v2 σ2) fun σ3 =>
    cv (Mo_word v0 v3 σ3) fun σ4 =>
    cv (Mo_word v0 v4 σ4) fun σ5 =>
    cv (Mo_word v0 v5 σ5) fun σ6 =>
    some (1, σ6)
  else
    some (0, σ1)
def Mo_end (v0 : Nat) (v1 : Int32) (σ : St) : Option (Int32 × St) :=
  nm (s2 σ v0 0 0) fun σ1 =>
  if v1 < 0 then
    some (0, σ1)
  else
    if v1 ≤ (σ1 v0 2) then
      nm (s2 σ1 v0 2 v1) fun σ2 =>
      some (1, σ2)
    else
      some (0, σ1)
def Mo_next (v0 : Nat) (σ : St) : Option (Int32 × St) :=
  nm (s2 σ v0 45 ((σ v0 45) + 1)) fun σ1 =>
  if (σ1 v0 44) < (σ1 v0 45) then
    some ((-1), σ1)
  else
    lr σ1 (rn (σ1 v0 43)) ((σ1 v0 45) - 1) fun x2 =>
    some (x2, σ1)
def Mo_small (v0 : Nat) (σ : St) : Option (Int32 × St) :=
  cl (Mo_next v0 σ) fun x2 σ1 =>
  if x2 ≤ 127 then
    some (x2, σ1)
  else
    some (x2 - 256, σ1)
def Mo_four_B4 : Nat → Nat → Int32 → Int32 → St → Option (Int32 × St)
  | 0, _, _, _, _ => none
  | n + 1, v0, v1, v2, σ =>
    if 4 ≤ v2 then
      some (v1, σ)
    else
      cl (Mo_next v0 σ) fun x2 σ1 =>
      nm (v1 ||| (shl (x2 &&& 255) (8 * v2))) fun x3 =>
      nm (v2 + 1) fun x4 =>
      Mo_four_B4 n v0 x3 x4 σ1
def Mo_four (v0 : Nat) (σ : St) : Option (Int32 × St) :=
  Mo_four_B4 FU v0 0 0 σ
def Mo_told_B197 (v5 : Int32) (v6 : Int32) (t0 : Nat) (t1 : Int32) (σ : St) : Option (St) :=
  nm (s2 σ t0 49 ((t1 + (16 * v5)) + (256 * v6))) fun σ1 =>
  some σ1
def Mo_told_B150 (v0 : Nat) (v2 : Int32) (v4 : Int32) (v5 : Int32) (v6 : Int32) (v7 : Int32) (σ : St) : Option (St) :=
  if ¬ v2 = 1 then
    if v2 = 2 then
      cl (Mo_four v0 σ) fun x2 σ1 =>
      nm (s2 σ1 v0 50 x2) fun σ3 =>
      if v7 = 0 then
        Mo_told_B197 v5 v6 v0 v4 σ3
      else
        Mo_told_B197 v5 v6 v0 8 σ3
    else
      if v7 = 0 then
        nm (s2 σ v0 50 0) fun σ4 =>
        if v7 = 0 then
          Mo_told_B197 v5 v6 v0 v4 σ4
        else
          Mo_told_B197 v5 v6 v0 8 σ4
      else
        cl (Mo_four v0 σ) fun x6 σ5 =>
        nm (s2 σ5 v0 50 x6) fun σ7 =>
        if v7 = 0 then
          Mo_told_B197 v5 v6 v0 v4 σ7
        else
          Mo_told_B197 v5 v6 v0 8 σ7
  else
    cl (Mo_small v0 σ) fun x9 σ8 =>
    nm (s2 σ8 v0 50 x9) fun σ10 =>
    if v7 = 0 then
      Mo_told_B197 v5 v6 v0 v4 σ10
    else
      Mo_told_B197 v5 v6 v0 8 σ10
def Mo_told_B135 (v0 : Nat) (v2 : Int32) (v4 : Int32) (v5 : Int32) (v6 : Int32) (t0 : Int32) (σ : St) : Option (St) :=
  if ¬ v5 = 4 then
    Mo_told_B150 v0 v2 v4 v5 v6 t0 σ
  else
    Mo_told_B150 v0 v2 v4 8 0 t0 σ
def Mo_told_B80 (v0 : Nat) (v2 : Int32) (v3 : Int32) (v4 : Int32) (v5 : Int32) (v6 : Int32) (t0 : Int32) (σ : St) : Option (St) :=
  if ¬ v3 = 4 then
    Mo_told_B150 v0 v2 v4 v5 v6 t0 σ
  else
    cl (Mo_next v0 σ) fun x2 σ1 =>
    nm (x2 &&& 255) fun x3 =>
    nm (x3 &&& 7) fun x4 =>
    nm ((shr x3 3) &&& 7) fun x5 =>
    nm (shr x3 6) fun x6 =>
    if ¬ x4 = 5 then
      Mo_told_B135 v0 v2 x4 x5 x6 0 σ1
    else
      if ¬ v2 = 0 then
        Mo_told_B135 v0 v2 x4 x5 x6 0 σ1
      else
        Mo_told_B135 v0 v2 x4 x5 x6 1 σ1
def Mo_told_B40 (v0 : Nat) (v2 : Int32) (v3 : Int32) (t0 : Nat) (t1 : Int32) (σ : St) : Option (St) :=
  zb t1 <|
  nm (s2 σ t0 53 t1) fun σ1 =>
  nm (s2 σ1 v0 49 v3) fun σ2 =>
  if ¬ (σ2 v0 53) = 0 then
    if ¬ v3 = 5 then
      Mo_told_B80 v0 v2 v3 v3 8 0 0 σ2
    else
      if ¬ v2 = 0 then
        Mo_told_B80 v0 v2 v3 v3 8 0 0 σ2
      else
        Mo_told_B80 v0 v2 v3 v3 8 0 1 σ2
  else
    some σ2
def Mo_told (v0 : Nat) (σ : St) : Option (St) :=
  cl (Mo_next v0 σ) fun x2 σ1 =>
  nm (x2 &&& 255) fun x3 =>
  nm (shr x3 6) fun x4 =>
  nm (x3 &&& 7) fun x5 =>
  nm (s2 σ1 v0 52 ((shr x3 3) &&& 7)) fun σ6 =>
  if 3 ≤ x4 then
    Mo_told_B40 v0 x4 x5 v0 0 σ6
  else
    Mo_told_B40 v0 x4 x5 v0 1 σ6
def Mo_is (v0 : Nat) (v1 : Int32) (v2 : Int32) (σ : St) : Option (Int32 × St) :=
  nm (s2 σ v0 46 v1) fun σ1 =>
  nm (s2 σ1 v0 47 v2) fun σ2 =>
  some (1, σ2)
def Mo_left (v0 : Nat) (v1 : Int32) (σ : St) : Option (Int32 × St) :=
  cv (Mo_told v0 σ) fun σ1 =>
  if (σ1 v0 53) = 0 then
    nm (s2 σ1 v0 48 (σ1 v0 49)) fun σ2 =>
    nm (s2 σ2 v0 49 (σ2 v0 52)) fun σ3 =>
    cl (Mo_is v0 v1 2 σ3) fun x5 σ4 =>
    zb x5 <|
    some (x5, σ4)
  else
    nm (s2 σ1 v0 48 (σ1 v0 52)) fun σ6 =>
    cl (Mo_is v0 v1 4 σ6) fun x8 σ7 =>
    zb x8 <|
    some (x8, σ7)
def Mo_right (v0 : Nat) (v1 : Int32) (σ : St) : Option (Int32 × St) :=
  cv (Mo_told v0 σ) fun σ1 =>
  nm (s2 σ1 v0 48 (σ1 v0 52)) fun σ2 =>
  if (σ2 v0 53) = 0 then
    cl (Mo_is v0 v1 2 σ2) fun x4 σ3 =>
    zb x4 <|
    some (x4, σ3)
  else
    cl (Mo_is v0 v1 3 σ2) fun x6 σ5 =>
    zb x6 <|
    some (x6, σ5)
def Mo_alone_B20 (v0 : Nat) (v1 : Int32) (v2 : Int32) (σ : St) : Option (Int32 × St) :=
  if (σ v0 53) = 0 then
    if v2 = 0 then
      cl (Mo_is v0 v1 1 σ) fun x2 σ1 =>
      zb x2 <|
      some (x2, σ1)
    else
      cl (Mo_is v0 v1 5 σ) fun x4 σ3 =>
      zb x4 <|
      some (x4, σ3)
  else
    if v2 = 0 then
      cl (Mo_is v0 v1 7 σ) fun x6 σ5 =>
      zb x6 <|
      some (x6, σ5)
    else
      cl (Mo_is v0 v1 6 σ) fun x8 σ7 =>
      zb x8 <|
      some (x8, σ7)
def Mo_alone (v0 : Nat) (v1 : Int32) (v2 : Int32) (σ : St) : Option (Int32 × St) :=
  if ¬ (σ v0 53) = 0 then
    Mo_alone_B20 v0 v1 v2 σ
  else
    nm (s2 σ v0 48 (σ v0 49)) fun σ1 =>
    nm (s2 σ1 v0 49 0) fun σ2 =>
    Mo_alone_B20 v0 v1 v2 σ2
def Mo_second (v0 : Nat) (σ : St) : Option (Int32 × St) :=
  cl (Mo_next v0 σ) fun x2 σ1 =>
  if ¬ x2 = 175 then
    if x2 < 128 then
      some (0, σ1)
    else
      if 143 < x2 then
        some (0, σ1)
      else
        if x2 = 138 then
          some (0, σ1)
        else
          if ¬ x2 = 139 then
            nm (s2 σ1 v0 48 (x2 - 128)) fun σ3 =>
            cl (Mo_four v0 σ3) fun x5 σ4 =>
            nm (s2 σ4 v0 51 x5) fun σ6 =>
            cl (Mo_is v0 25 8 σ6) fun x8 σ7 =>
            zb x8 <|
            some (x8, σ7)
          else
            some (0, σ1)
  else
    cl (Mo_right v0 11 σ1) fun x10 σ9 =>
    zb x10 <|
    some (x10, σ9)
def Mo_known_B375 (v0 : Nat) (v1 : Int32) (σ : St) : Option (Int32 × St) :=
  cv (Mo_told v0 σ) fun σ1 =>
  cl (Mo_alone v0 (σ1 v0 52) 1 σ1) fun x3 σ2 =>
  if ¬ v1 = 129 then
    cl (Mo_small v0 σ2) fun x5 σ4 =>
    nm (s2 σ4 v0 51 x5) fun σ6 =>
    some (1, σ6)
  else
    cl (Mo_four v0 σ2) fun x8 σ7 =>
    nm (s2 σ7 v0 51 x8) fun σ9 =>
    some (1, σ9)
def Mo_known_B497 (v0 : Nat) (t0 : Nat) (t1 : Int32) (σ : St) : Option (Int32 × St) :=
  cl (Mo_alone t0 t1 1 σ) fun x2 σ1 =>
  cl (Mo_next v0 σ1) fun x4 σ3 =>
  nm (s2 σ3 v0 51 (x4 &&& 255)) fun σ5 =>
  if (σ5 v0 52) = 4 then
    some (1, σ5)
  else
    if (σ5 v0 52) = 5 then
      some (1, σ5)
    else
      if ¬ (σ5 v0 52) = 7 then
        some (0, σ5)
      else
        some (1, σ5)
def Mo_known_B665 (v0 : Nat) (t0 : Nat) (t1 : Int32) (σ : St) : Option (Int32 × St) :=
  cl (Mo_alone t0 t1 0 σ) fun x2 σ1 =>
  if (σ1 v0 52) = 2 then
    some (1, σ1)
  else
    if ¬ (σ1 v0 52) = 3 then
      some (0, σ1)
    else
      some (1, σ1)
def Mo_known_B712 (v0 : Nat) (t0 : Nat) (t1 : Int32) (σ : St) : Option (Int32 × St) :=
  cl (Mo_alone t0 t1 0 σ) fun x2 σ1 =>
  if ¬ (σ1 v0 53) = 0 then
    some (0, σ1)
  else
    if (σ1 v0 52) = 2 then
      some (1, σ1)
    else
      if ¬ (σ1 v0 52) = 4 then
        some (0, σ1)
      else
        some (1, σ1)
def Mo_known_B174 (v0 : Nat) (v1 : Int32) (σ : St) : Option (Int32 × St) :=
  if v1 = 15 then
    cl (Mo_second v0 σ) fun x2 σ1 =>
    zb x2 <|
    some (x2, σ1)
  else
  if v1 = 104 then
    cl (Mo_four v0 σ) fun x4 σ3 =>
    nm (s2 σ3 v0 51 x4) fun σ5 =>
    cl (Mo_is v0 19 8 σ5) fun x7 σ6 =>
    zb x7 <|
    some (x7, σ6)
  else
  if v1 = 106 then
    cl (Mo_small v0 σ) fun x9 σ8 =>
    nm (s2 σ8 v0 51 x9) fun σ10 =>
    cl (Mo_is v0 19 8 σ10) fun x12 σ11 =>
    zb x12 <|
    some (x12, σ11)
  else
  if v1 = 129 then
    Mo_known_B375 v0 v1 σ
  else
  if v1 = 131 then
    Mo_known_B375 v0 v1 σ
  else
  if v1 = 133 then
    cl (Mo_left v0 9 σ) fun x14 σ13 =>
    zb x14 <|
    some (x14, σ13)
  else
  if v1 = 137 then
    cl (Mo_left v0 8 σ) fun x16 σ15 =>
    zb x16 <|
    some (x16, σ15)
  else
  if v1 = 139 then
    cl (Mo_right v0 8 σ) fun x18 σ17 =>
    zb x18 <|
    some (x18, σ17)
  else
  if v1 = 141 then
    cl (Mo_right v0 10 σ) fun x20 σ19 =>
    if x20 = 0 then
      some (0, σ19)
    else
      if (σ19 v0 53) = 0 then
        some (0, σ19)
      else
        some (1, σ19)
  else
  if v1 = 144 then
    cl (Mo_is v0 21 0 σ) fun x22 σ21 =>
    zb x22 <|
    some (x22, σ21)
  else
  if v1 = 193 then
    cv (Mo_told v0 σ) fun σ23 =>
    if ¬ (σ23 v0 52) = 4 then
      if ¬ (σ23 v0 52) = 5 then
        Mo_known_B497 v0 v0 16 σ23
      else
        Mo_known_B497 v0 v0 15 σ23
    else
      Mo_known_B497 v0 v0 14 σ23
  else
  if v1 = 195 then
    cl (Mo_is v0 23 0 σ) fun x25 σ24 =>
    zb x25 <|
    some (x25, σ24)
  else
  if v1 = 199 then
    cv (Mo_told v0 σ) fun σ26 =>
    cl (Mo_alone v0 8 1 σ26) fun x28 σ27 =>
    cl (Mo_four v0 σ27) fun x30 σ29 =>
    nm (s2 σ29 v0 51 x30) fun σ31 =>
    if ¬ (σ31 v0 52) = 0 then
      some (0, σ31)
    else
      some (1, σ31)
  else
  if v1 = 232 then
    cl (Mo_four v0 σ) fun x33 σ32 =>
    nm (s2 σ32 v0 51 x33) fun σ34 =>
    cl (Mo_is v0 26 8 σ34) fun x36 σ35 =>
    zb x36 <|
    some (x36, σ35)
  else
  if v1 = 233 then
    cl (Mo_four v0 σ) fun x38 σ37 =>
    nm (s2 σ37 v0 51 x38) fun σ39 =>
    cl (Mo_is v0 24 8 σ39) fun x41 σ40 =>
    zb x41 <|
    some (x41, σ40)
  else
  if v1 = 235 then
    cl (Mo_small v0 σ) fun x43 σ42 =>
    nm (s2 σ42 v0 51 x43) fun σ44 =>
    cl (Mo_is v0 24 8 σ44) fun x46 σ45 =>
    zb x46 <|
    some (x46, σ45)
  else
  if v1 = 244 then
    cl (Mo_is v0 22 0 σ) fun x48 σ47 =>
    zb x48 <|
    some (x48, σ47)
  else
  if v1 = 247 then
    cv (Mo_told v0 σ) fun σ49 =>
    if ¬ (σ49 v0 52) = 2 then
      Mo_known_B665 v0 v0 13 σ49
    else
      Mo_known_B665 v0 v0 12 σ49
  else
  if v1 = 255 then
    cv (Mo_told v0 σ) fun σ50 =>
    if ¬ (σ50 v0 52) = 4 then
      Mo_known_B712 v0 v0 28 σ50
    else
      Mo_known_B712 v0 v0 27 σ50
  else
  some (0, σ)
def Mo_known_B135 (v0 : Nat) (v1 : Int32) (σ : St) : Option (Int32 × St) :=
  if v1 < 184 then
    Mo_known_B174 v0 v1 σ
  else
    if 192 ≤ v1 then
      Mo_known_B174 v0 v1 σ
    else
      nm (s2 σ v0 48 (v1 - 184)) fun σ1 =>
      cl (Mo_four v0 σ1) fun x3 σ2 =>
      nm (s2 σ2 v0 51 x3) fun σ4 =>
      cl (Mo_is v0 8 5 σ4) fun x6 σ5 =>
      zb x6 <|
      some (x6, σ5)
def Mo_known_B85 (v0 : Nat) (v1 : Int32) (σ : St) : Option (Int32 × St) :=
  if v1 < 112 then
    Mo_known_B135 v0 v1 σ
  else
    if 128 ≤ v1 then
      Mo_known_B135 v0 v1 σ
    else
      if v1 = 122 then
        Mo_known_B135 v0 v1 σ
      else
        if v1 = 123 then
          Mo_known_B135 v0 v1 σ
        else
          nm (s2 σ v0 48 (v1 - 112)) fun σ1 =>
          cl (Mo_small v0 σ1) fun x3 σ2 =>
          nm (s2 σ2 v0 51 x3) fun σ4 =>
          cl (Mo_is v0 25 8 σ4) fun x6 σ5 =>
          zb x6 <|
          some (x6, σ5)
def Mo_known_B50 (v0 : Nat) (v1 : Int32) (σ : St) : Option (Int32 × St) :=
  if v1 < 64 then
    Mo_known_B85 v0 v1 σ
  else
    if 96 ≤ v1 then
      Mo_known_B85 v0 v1 σ
    else
      nm (s2 σ v0 48 (v1 &&& 7)) fun σ1 =>
      cl (Mo_is v0 (17 + (shr (v1 - 64) 3)) 1 σ1) fun x3 σ2 =>
      zb x3 <|
      some (x3, σ2)
def Mo_known_B28 (v0 : Nat) (v1 : Int32) (σ : St) : Option (Int32 × St) :=
  if 64 ≤ v1 then
    Mo_known_B50 v0 v1 σ
  else
    if ¬ (v1 &&& 7) = 3 then
      Mo_known_B50 v0 v1 σ
    else
      cl (Mo_right v0 (shr v1 3) σ) fun x2 σ1 =>
      zb x2 <|
      some (x2, σ1)
def Mo_known (v0 : Nat) (v1 : Int32) (σ : St) : Option (Int32 × St) :=
  if 0 ≤ v1 then
    if 64 ≤ v1 then
      Mo_known_B28 v0 v1 σ
    else
      if ¬ (v1 &&& 7) = 1 then
        Mo_known_B28 v0 v1 σ
      else
        cl (Mo_left v0 (shr v1 3) σ) fun x2 σ1 =>
        zb x2 <|
        some (x2, σ1)
  else
    some (0, σ)
def Mo_decode (v0 : Nat) (v1 : Nat) (v2 : Int32) (v3 : Int32) (σ : St) : Option (Int32 × St) :=
  gr v1 <|
  nm (s2 σ v0 43 (nI v1)) fun σ1 =>
  nm (s2 σ1 v0 44 v2) fun σ2 =>
  nm (s2 σ2 v0 45 v3) fun σ3 =>
  nm (s2 σ3 v0 48 0) fun σ4 =>
  nm (s2 σ4 v0 49 0) fun σ5 =>
  nm (s2 σ5 v0 50 0) fun σ6 =>
  nm (s2 σ6 v0 51 0) fun σ7 =>
  cl (Mo_next v0 σ7) fun x9 σ8 =>
  cl (Mo_known v0 x9 σ8) fun x11 σ10 =>
  if x11 = 0 then
    some (0, σ10)
  else
    if (σ10 v0 44) < (σ10 v0 45) then
      some (0, σ10)
    else
      some ((σ10 v0 45) - v3, σ10)
def Mo_faults (v0 : Nat) (v1 : Int32) (v2 : Int32) (σ : St) : Option (Int32 × St) :=
  nm (s2 σ v0 3 v1) fun σ1 =>
  nm (s2 σ1 v0 4 v2) fun σ2 =>
  some (0, σ2)
def Mo_isService (v0 : Int32) (σ : St) : Option (Int32 × St) :=
  if v0 = 0 then
    some (1, σ)
  else
    if v0 = 16 then
      some (1, σ)
    else
      if v0 = 32 then
        some (1, σ)
      else
        if ¬ v0 = 48 then
          some (0, σ)
        else
          some (1, σ)
def Mo_keeps_B416 (K310 : Nat → Nat → Int32 → Nat → Int32 → St → Option (Int32 × St)) (v0 : Nat) (v1 : Nat) (v2 : Int32) (v3 : Nat) (v4 : Int32) (t0 : Int32) (σ : St) : Option (Int32 × St) :=
  if ¬ t0 = 0 then
    nm (v4 + 1) fun x1 =>
    K310 v0 v1 v2 v3 x1 σ
  else
    cl (Mo_faults v0 6 v4 σ) fun x3 σ2 =>
    zb x3 <|
    some (x3, σ2)
def Mo_keeps_B310 : Nat → Nat → Nat → Int32 → Nat → Int32 → St → Option (Int32 × St)
  | 0, _, _, _, _, _, _ => none
  | n + 1, v0, v1, v2, v3, v4, σ =>
    if v2 ≤ v4 then
      cl (Mo_faults v0 0 (-1) σ) fun x2 σ1 =>
      some (1, σ1)
    else
      lr σ v3 v4 fun x3 =>
      if ¬ x3 = 0 then
        cl (Mo_decode v0 v1 v2 v4 σ) fun x5 σ4 =>
        if (σ4 v0 46) < 24 then
          nm (v4 + 1) fun x6 =>
          Mo_keeps_B310 n v0 v1 v2 v3 x6 σ4
        else
          if (σ4 v0 46) ≤ 26 then
            nm (((256 + v4) + x5) + (σ4 v0 51)) fun x7 =>
            cl (Mo_isService x7 σ4) fun x9 σ8 =>
            if ¬ x9 = 0 then
              Mo_keeps_B416 (Mo_keeps_B310 n) v0 v1 v2 v3 v4 1 σ8
            else
              if x7 < 256 then
                Mo_keeps_B416 (Mo_keeps_B310 n) v0 v1 v2 v3 v4 0 σ8
              else
                if (256 + v2) ≤ x7 then
                  Mo_keeps_B416 (Mo_keeps_B310 n) v0 v1 v2 v3 v4 0 σ8
                else
                  lr σ8 v3 (x7 - 256) fun x10 =>
                  if ¬ x10 = 1 then
                    Mo_keeps_B416 (Mo_keeps_B310 n) v0 v1 v2 v3 v4 0 σ8
                  else
                    Mo_keeps_B416 (Mo_keeps_B310 n) v0 v1 v2 v3 v4 1 σ8
          else
            nm (v4 + 1) fun x11 =>
            Mo_keeps_B310 n v0 v1 v2 v3 x11 σ4
      else
        nm (v4 + 1) fun x12 =>
        Mo_keeps_B310 n v0 v1 v2 v3 x12 σ
def Mo_keeps_B252 (K50 : Nat → Nat → Int32 → Nat → Int32 → St → Option (Int32 × St)) (K63 : Nat → Nat → Int32 → Nat → Int32 → Int32 → Int32 → St → Option (Int32 × St)) (v0 : Nat) (v1 : Nat) (v2 : Int32) (v3 : Nat) (v4 : Int32) (v5 : Int32) (v7 : Int32) (v9 : Int32) (σ : St) : Option (Int32 × St) :=
  if (v5 + v7) = (v4 + 16) then
    if v9 = 0 then
      sr σ v3 v5 1 fun σ1 =>
      nm (v5 + v7) fun x2 =>
      K63 v0 v1 v2 v3 v4 x2 v5 σ1
    else
      sr σ v3 v5 2 fun σ3 =>
      nm (v5 + v7) fun x4 =>
      K63 v0 v1 v2 v3 v4 x4 v5 σ3
  else
    cl (Mo_faults v0 5 v5 σ) fun x6 σ5 =>
    zb x6 <|
    some (x6, σ5)
def Mo_keeps_B234 (K50 : Nat → Nat → Int32 → Nat → Int32 → St → Option (Int32 × St)) (K63 : Nat → Nat → Int32 → Nat → Int32 → Int32 → Int32 → St → Option (Int32 × St)) (v0 : Nat) (v1 : Nat) (v2 : Int32) (v3 : Nat) (v4 : Int32) (v5 : Int32) (v7 : Int32) (v9 : Int32) (σ : St) : Option (Int32 × St) :=
  if (σ v0 46) = 26 then
    Mo_keeps_B252 K50 K63 v0 v1 v2 v3 v4 v5 v7 v9 σ
  else
    if ¬ (σ v0 46) = 28 then
      if v9 = 0 then
        sr σ v3 v5 1 fun σ1 =>
        nm (v5 + v7) fun x2 =>
        K63 v0 v1 v2 v3 v4 x2 v5 σ1
      else
        sr σ v3 v5 2 fun σ3 =>
        nm (v5 + v7) fun x4 =>
        K63 v0 v1 v2 v3 v4 x4 v5 σ3
    else
      Mo_keeps_B252 K50 K63 v0 v1 v2 v3 v4 v5 v7 v9 σ
def Mo_keeps_B214 (K50 : Nat → Nat → Int32 → Nat → Int32 → St → Option (Int32 × St)) (K63 : Nat → Nat → Int32 → Nat → Int32 → Int32 → Int32 → St → Option (Int32 × St)) (v0 : Nat) (v1 : Nat) (v2 : Int32) (v3 : Nat) (v4 : Int32) (v5 : Int32) (v7 : Int32) (v8 : Int32) (t0 : Int32) (σ : St) : Option (Int32 × St) :=
  if v8 = 0 then
    Mo_keeps_B234 K50 K63 v0 v1 v2 v3 v4 v5 v7 t0 σ
  else
    if ¬ t0 = 0 then
      Mo_keeps_B234 K50 K63 v0 v1 v2 v3 v4 v5 v7 t0 σ
    else
      cl (Mo_faults v0 4 v5 σ) fun x2 σ1 =>
      zb x2 <|
      some (x2, σ1)
def Mo_keeps_B149 (K50 : Nat → Nat → Int32 → Nat → Int32 → St → Option (Int32 × St)) (K63 : Nat → Nat → Int32 → Nat → Int32 → Int32 → Int32 → St → Option (Int32 × St)) (v0 : Nat) (v1 : Nat) (v2 : Int32) (v3 : Nat) (v4 : Int32) (v5 : Int32) (v6 : Int32) (v7 : Int32) (t0 : Int32) (σ : St) : Option (Int32 × St) :=
  if t0 = 0 then
    Mo_keeps_B214 K50 K63 v0 v1 v2 v3 v4 v5 v7 t0 0 σ
  else
    if v6 < 0 then
      Mo_keeps_B214 K50 K63 v0 v1 v2 v3 v4 v5 v7 t0 0 σ
    else
      if ¬ (v5 - v6) = 3 then
        Mo_keeps_B214 K50 K63 v0 v1 v2 v3 v4 v5 v7 t0 0 σ
      else
        lr σ v1 v6 fun x1 =>
        if ¬ x1 = 131 then
          Mo_keeps_B214 K50 K63 v0 v1 v2 v3 v4 v5 v7 t0 0 σ
        else
          lr σ v1 (v6 + 1) fun x2 =>
          if ¬ x2 = (224 + (σ v0 48)) then
            Mo_keeps_B214 K50 K63 v0 v1 v2 v3 v4 v5 v7 t0 0 σ
          else
            lr σ v1 (v6 + 2) fun x3 =>
            if ¬ x3 = 240 then
              Mo_keeps_B214 K50 K63 v0 v1 v2 v3 v4 v5 v7 t0 0 σ
            else
              Mo_keeps_B214 K50 K63 v0 v1 v2 v3 v4 v5 v7 t0 1 σ
def Mo_keeps_B63 (K50 : Nat → Nat → Int32 → Nat → Int32 → St → Option (Int32 × St)) : Nat → Nat → Nat → Int32 → Nat → Int32 → Int32 → Int32 → St → Option (Int32 × St)
  | 0, _, _, _, _, _, _, _, _ => none
  | n + 1, v0, v1, v2, v3, v4, v5, v6, σ =>
    if (v4 + 16) ≤ v5 then
      nm (v4 + 16) fun x1 =>
      K50 v0 v1 v2 v3 x1 σ
    else
      cl (Mo_decode v0 v1 v2 v5 σ) fun x3 σ2 =>
      if x3 = 0 then
        cl (Mo_faults v0 2 v5 σ2) fun x5 σ4 =>
        zb x5 <|
        some (x5, σ4)
      else
        if ¬ (σ2 v0 46) = 23 then
          if (v5 + x3) ≤ (v4 + 16) then
            if (σ2 v0 46) = 27 then
              Mo_keeps_B149 K50 (Mo_keeps_B63 K50 n) v0 v1 v2 v3 v4 v5 v6 x3 1 σ2
            else
              if ¬ (σ2 v0 46) = 28 then
                Mo_keeps_B149 K50 (Mo_keeps_B63 K50 n) v0 v1 v2 v3 v4 v5 v6 x3 0 σ2
              else
                Mo_keeps_B149 K50 (Mo_keeps_B63 K50 n) v0 v1 v2 v3 v4 v5 v6 x3 1 σ2
          else
            cl (Mo_faults v0 3 v5 σ2) fun x7 σ6 =>
            zb x7 <|
            some (x7, σ6)
        else
          cl (Mo_faults v0 2 v5 σ2) fun x9 σ8 =>
          zb x9 <|
          some (x9, σ8)
def Mo_keeps_B50 : Nat → Nat → Nat → Int32 → Nat → Int32 → St → Option (Int32 × St)
  | 0, _, _, _, _, _, _ => none
  | n + 1, v0, v1, v2, v3, v4, σ =>
    if v2 ≤ v4 then
      Mo_keeps_B310 FU v0 v1 v2 v3 0 σ
    else
      Mo_keeps_B63 (Mo_keeps_B50 n) FU v0 v1 v2 v3 v4 v4 (-1) σ
def Mo_keeps_B30 : Nat → Nat → Nat → Int32 → Nat → Int32 → St → Option (Int32 × St)
  | 0, _, _, _, _, _, _ => none
  | n + 1, v0, v1, v2, v3, v4, σ =>
    if v2 ≤ v4 then
      Mo_keeps_B50 FU v0 v1 v2 v3 0 σ
    else
      sr σ v3 v4 0 fun σ1 =>
      nm (v4 + 1) fun x2 =>
      Mo_keeps_B30 n v0 v1 v2 v3 x2 σ1
def Mo_keeps (v0 : Nat) (v1 : Nat) (v2 : Int32) (v3 : Nat) (σ : St) : Option (Int32 × St) :=
  if v2 < 16 then
    cl (Mo_faults v0 1 v2 σ) fun x2 σ1 =>
    zb x2 <|
    some (x2, σ1)
  else
    if 1024 < v2 then
      cl (Mo_faults v0 1 v2 σ) fun x4 σ3 =>
      zb x4 <|
      some (x4, σ3)
    else
      if (rem v2 16) = 0 then
        Mo_keeps_B30 FU v0 v1 v2 v3 0 σ
      else
        cl (Mo_faults v0 1 v2 σ) fun x6 σ5 =>
        zb x6 <|
        some (x6, σ5)
def Mo_becomes_B7 : Nat → Nat → Nat → Int32 → Int32 → St → Option (St)
  | 0, _, _, _, _, _ => none
  | n + 1, v0, v1, v2, v3, σ =>
    if v2 ≤ v3 then
      sa σ (ch v0 30) 2 0 0 fun σ1 =>
      sa σ1 (ch v0 30) 2 1 0 fun σ2 =>
      some σ2
    else
      lr σ v1 v3 fun x3 =>
      sa σ (ch v0 5) 1024 v3 x3 fun σ4 =>
      ld σ4 (ch v0 54) 1024 v3 fun x5 =>
      sa σ4 (ch v0 7) 1024 v3 x5 fun σ6 =>
      nm (v3 + 1) fun x7 =>
      Mo_becomes_B7 n v0 v1 v2 x7 σ6
def Mo_becomes (v0 : Nat) (v1 : Nat) (v2 : Int32) (σ : St) : Option (St) :=
  nm (s2 σ v0 6 v2) fun σ1 =>
  Mo_becomes_B7 FU v0 v1 v2 0 σ1
def Mo_check (v0 : Nat) (σ : St) : Option (Int32 × St) :=
  nm (s2 σ v0 0 0) fun σ1 =>
  nm (σ1 v0 2) fun x2 =>
  nm (s2 σ1 v0 2 0) fun σ3 =>
  cl (Mo_keeps v0 (ch v0 1) x2 (ch v0 54) σ3) fun x5 σ4 =>
  if ¬ x5 = 0 then
    cv (Mo_becomes v0 (ch v0 1) x2 σ4) fun σ6 =>
    nm (s2 σ6 v0 10 0) fun σ7 =>
    some (0, σ7)
  else
    some (σ4 v0 3, σ4)
def Mo_fault (v0 : Nat) (v1 : Int32) (σ : St) : Option (Int32 × St) :=
  nm (s2 σ v0 0 0) fun σ1 =>
  if ¬ v1 = 0 then
    if ¬ v1 = 1 then
      some ((-1), σ1)
    else
      some (σ1 v0 4, σ1)
  else
    some (σ1 v0 3, σ1)
def Mo_isRegister (v0 : Int32) (σ : St) : Option (Int32 × St) :=
  if v0 < 0 then
    some (0, σ)
  else
    if 8 ≤ v0 then
      some (0, σ)
    else
      some (1, σ)
def Mo_isMemoryX (v0 : Int32) (σ : St) : Option (Int32 × St) :=
  nm ((shr v0 4) &&& 15) fun x1 =>
  nm (shr v0 8) fun x2 =>
  if v0 < 0 then
    some (0, σ)
  else
    if 8 < (v0 &&& 15) then
      some (0, σ)
    else
      if 8 < x1 then
        some (0, σ)
      else
        if x1 = 4 then
          some (0, σ)
        else
          if 3 < x2 then
            some (0, σ)
          else
            if x1 < 8 then
              some (1, σ)
            else
              if ¬ x2 = 0 then
                some (0, σ)
              else
                some (1, σ)
def Mo_hasForm (v0 : Int32) (v1 : Int32) (σ : St) : Option (Int32 × St) :=
  if v0 < 0 then
    some (0, σ)
  else
    if v0 ≤ 22 then
      if 8 < v0 then
        if v0 = 9 then
          if v1 = 2 then
            some (1, σ)
          else
            if ¬ v1 = 4 then
              some (0, σ)
            else
              some (1, σ)
        else
        if v0 = 10 then
          if ¬ v1 = 3 then
            some (0, σ)
          else
            some (1, σ)
        else
        if v0 = 11 then
          if v1 = 2 then
            some (1, σ)
          else
            if ¬ v1 = 3 then
              some (0, σ)
            else
              some (1, σ)
        else
        if v0 = 12 then
          if v1 = 1 then
            some (1, σ)
          else
            if ¬ v1 = 7 then
              some (0, σ)
            else
              some (1, σ)
        else
        if v0 = 13 then
          if v1 = 1 then
            some (1, σ)
          else
            if ¬ v1 = 7 then
              some (0, σ)
            else
              some (1, σ)
        else
        if v0 = 14 then
          if v1 = 5 then
            some (1, σ)
          else
            if ¬ v1 = 6 then
              some (0, σ)
            else
              some (1, σ)
        else
        if v0 = 15 then
          if v1 = 5 then
            some (1, σ)
          else
            if ¬ v1 = 6 then
              some (0, σ)
            else
              some (1, σ)
        else
        if v0 = 16 then
          if v1 = 5 then
            some (1, σ)
          else
            if ¬ v1 = 6 then
              some (0, σ)
            else
              some (1, σ)
        else
        if v0 = 17 then
          if ¬ v1 = 1 then
            some (0, σ)
          else
            some (1, σ)
        else
        if v0 = 18 then
          if ¬ v1 = 1 then
            some (0, σ)
          else
            some (1, σ)
        else
        if v0 = 19 then
          if v1 = 1 then
            some (1, σ)
          else
            if ¬ v1 = 8 then
              some (0, σ)
            else
              some (1, σ)
        else
        if v0 = 20 then
          if ¬ v1 = 1 then
            some (0, σ)
          else
            some (1, σ)
        else
        if ¬ v1 = 0 then
          some (0, σ)
        else
          some (1, σ)
      else
        if v1 < 2 then
          some (0, σ)
        else
          if 6 < v1 then
            some (0, σ)
          else
            some (1, σ)
    else
      some (0, σ)
def Mo_formHasR (v0 : Int32) (σ : St) : Option (Int32 × St) :=
  if v0 < 1 then
    some (0, σ)
  else
    if 5 < v0 then
      some (0, σ)
    else
      some (1, σ)
def Mo_formHasMemory (v0 : Int32) (σ : St) : Option (Int32 × St) :=
  if v0 = 3 then
    some (1, σ)
  else
    if v0 = 4 then
      some (1, σ)
    else
      if v0 = 6 then
        some (1, σ)
      else
        if ¬ v0 = 7 then
          some (0, σ)
        else
          some (1, σ)
def Mo_formHasI (v0 : Int32) (σ : St) : Option (Int32 × St) :=
  if v0 = 5 then
    some (1, σ)
  else
    if v0 = 6 then
      some (1, σ)
    else
      if ¬ v0 = 8 then
        some (0, σ)
      else
        some (1, σ)
def Mo_plain_B209 (v0 : Nat) (t0 : Nat) (t1 : Int32) (t2 : Int32) (σ : St) : Option (Int32 × St) :=
  sr σ t0 t1 t2 fun σ1 =>
  nm (s2 σ1 v0 8 ((σ1 v0 8) + 1)) fun σ2 =>
  some (σ2 v0 8, σ2)
def Mo_plain_B189 (v0 : Nat) (v2 : Int32) (v6 : Int32) (v7 : Int32) (t0 : Nat) (t1 : Int32) (t2 : Int32) (σ : St) : Option (Int32 × St) :=
  sr σ t0 t1 t2 fun σ1 =>
  cl (Mo_formHasI v2 σ1) fun x3 σ2 =>
  if x3 = 0 then
    Mo_plain_B209 v0 (ch v0 17) v7 0 σ2
  else
    Mo_plain_B209 v0 (ch v0 17) v7 v6 σ2
def Mo_plain_B169 (v0 : Nat) (v2 : Int32) (v5 : Int32) (v6 : Int32) (v7 : Int32) (t0 : Nat) (t1 : Int32) (t2 : Int32) (σ : St) : Option (Int32 × St) :=
  sr σ t0 t1 t2 fun σ1 =>
  cl (Mo_formHasMemory v2 σ1) fun x3 σ2 =>
  if x3 = 0 then
    Mo_plain_B189 v0 v2 v6 v7 (ch v0 16) v7 0 σ2
  else
    Mo_plain_B189 v0 v2 v6 v7 (ch v0 16) v7 v5 σ2
def Mo_plain_B144 (v0 : Nat) (v2 : Int32) (v4 : Int32) (v5 : Int32) (v6 : Int32) (v7 : Int32) (t0 : Nat) (t1 : Int32) (t2 : Int32) (σ : St) : Option (Int32 × St) :=
  sr σ t0 t1 t2 fun σ1 =>
  if v2 = 2 then
    Mo_plain_B169 v0 v2 v5 v6 v7 (ch v0 15) v7 v4 σ1
  else
    cl (Mo_formHasMemory v2 σ1) fun x3 σ2 =>
    if x3 = 0 then
      Mo_plain_B169 v0 v2 v5 v6 v7 (ch v0 15) v7 0 σ2
    else
      Mo_plain_B169 v0 v2 v5 v6 v7 (ch v0 15) v7 v4 σ2
def Mo_plain_B95 (v0 : Nat) (v1 : Int32) (v2 : Int32) (v3 : Int32) (v4 : Int32) (v5 : Int32) (v6 : Int32) (σ : St) : Option (Int32 × St) :=
  nm (σ v0 8) fun x1 =>
  sa σ (ch v0 11) 240 x1 9 fun σ2 =>
  sa σ2 (ch v0 12) 240 x1 v1 fun σ3 =>
  sa σ3 (ch v0 13) 240 x1 v2 fun σ4 =>
  cl (Mo_formHasR v2 σ4) fun x6 σ5 =>
  if x6 = 0 then
    Mo_plain_B144 v0 v2 v4 v5 v6 x1 (ch v0 14) x1 0 σ5
  else
    Mo_plain_B144 v0 v2 v4 v5 v6 x1 (ch v0 14) x1 v3 σ5
def Mo_plain_B68 (v0 : Nat) (v1 : Int32) (v2 : Int32) (v3 : Int32) (v4 : Int32) (v5 : Int32) (v6 : Int32) (σ : St) : Option (Int32 × St) :=
  if v1 < 14 then
    Mo_plain_B95 v0 v1 v2 v3 v4 v5 v6 σ
  else
    if 16 < v1 then
      Mo_plain_B95 v0 v1 v2 v3 v4 v5 v6 σ
    else
      if v6 < 0 then
        some ((-1), σ)
      else
        if v6 ≤ 255 then
          Mo_plain_B95 v0 v1 v2 v3 v4 v5 v6 σ
        else
          some ((-1), σ)
def Mo_plain_B51 (v0 : Nat) (v1 : Int32) (v2 : Int32) (v3 : Int32) (v4 : Int32) (v5 : Int32) (v6 : Int32) (σ : St) : Option (Int32 × St) :=
  cl (Mo_formHasMemory v2 σ) fun x2 σ1 =>
  if x2 = 0 then
    Mo_plain_B68 v0 v1 v2 v3 v4 v5 v6 σ1
  else
    cl (Mo_isMemoryX v4 σ1) fun x4 σ3 =>
    if ¬ x4 = 0 then
      Mo_plain_B68 v0 v1 v2 v3 v4 v5 v6 σ3
    else
      some ((-1), σ3)
def Mo_plain_B38 (v0 : Nat) (v1 : Int32) (v2 : Int32) (v3 : Int32) (v4 : Int32) (v5 : Int32) (v6 : Int32) (σ : St) : Option (Int32 × St) :=
  if ¬ v2 = 2 then
    Mo_plain_B51 v0 v1 v2 v3 v4 v5 v6 σ
  else
    cl (Mo_isRegister v4 σ) fun x2 σ1 =>
    if x2 = 0 then
      some ((-1), σ1)
    else
      Mo_plain_B51 v0 v1 v2 v3 v4 v5 v6 σ1
def Mo_plain (v0 : Nat) (v1 : Int32) (v2 : Int32) (v3 : Int32) (v4 : Int32) (v5 : Int32) (v6 : Int32) (σ : St) : Option (Int32 × St) :=
  nm (s2 σ v0 0 0) fun σ1 =>
  if (σ1 v0 8) = 120 then
    some ((-1), σ1)
  else
    cl (Mo_hasForm v1 v2 σ1) fun x3 σ2 =>
    if ¬ x3 = 0 then
      cl (Mo_formHasR v2 σ2) fun x5 σ4 =>
      if x5 = 0 then
        Mo_plain_B38 v0 v1 v2 v3 v4 v5 v6 σ4
      else
        cl (Mo_isRegister v3 σ4) fun x7 σ6 =>
        if x7 = 0 then
          some ((-1), σ6)
        else
          Mo_plain_B38 v0 v1 v2 v3 v4 v5 v6 σ6
    else
      some ((-1), σ2)
def Mo_flow_B286 (v0 : Nat) (t0 : Nat) (t1 : Int32) (t2 : Int32) (σ : St) : Option (Int32 × St) :=
  sr σ t0 t1 t2 fun σ1 =>
  nm (s2 σ1 v0 8 ((σ1 v0 8) + 1)) fun σ2 =>
  some (σ2 v0 8, σ2)
def Mo_flow_B259 (v0 : Nat) (v1 : Int32) (v3 : Int32) (v6 : Int32) (t0 : Nat) (t1 : Int32) (t2 : Int32) (σ : St) : Option (Int32 × St) :=
  sr σ t0 t1 t2 fun σ1 =>
  if v1 = 0 then
    Mo_flow_B286 v0 (ch v0 15) v6 v3 σ1
  else
    if v1 = 2 then
      Mo_flow_B286 v0 (ch v0 15) v6 v3 σ1
    else
      if ¬ v1 = 8 then
        Mo_flow_B286 v0 (ch v0 15) v6 0 σ1
      else
        Mo_flow_B286 v0 (ch v0 15) v6 v3 σ1
def Mo_flow_B212 (v0 : Nat) (v1 : Int32) (v2 : Int32) (v3 : Int32) (v5 : Int32) (σ : St) : Option (Int32 × St) :=
  if (σ v0 8) = 120 then
    some ((-1), σ)
  else
    if ¬ v5 = 0 then
      nm (σ v0 8) fun x1 =>
      sa σ (ch v0 11) 240 x1 v1 fun σ2 =>
      if ¬ v1 = 7 then
        Mo_flow_B259 v0 v1 v3 x1 (ch v0 14) x1 v2 σ2
      else
        Mo_flow_B259 v0 v1 v3 x1 (ch v0 14) x1 1 σ2
    else
      some ((-1), σ)
def Mo_flow_B159 (v0 : Nat) (v1 : Int32) (v2 : Int32) (v3 : Int32) (σ : St) : Option (Int32 × St) :=
  cl (Mo_isRegister v2 σ) fun x2 σ1 =>
  if x2 = 0 then
    Mo_flow_B212 v0 v1 v2 v3 0 σ1
  else
    if v2 = 4 then
      Mo_flow_B212 v0 v1 v2 v3 0 σ1
    else
      Mo_flow_B212 v0 v1 v2 v3 1 σ1
def Mo_flow_B20 (v0 : Nat) (v1 : Int32) (v2 : Int32) (v3 : Int32) (t0 : Int32) (σ : St) : Option (Int32 × St) :=
  if v1 = 0 then
    if t0 = 0 then
      Mo_flow_B212 v0 v1 v2 v3 0 σ
    else
      if v3 = 0 then
        Mo_flow_B212 v0 v1 v2 v3 1 σ
      else
        if ¬ v3 = 1 then
          Mo_flow_B212 v0 v1 v2 v3 0 σ
        else
          Mo_flow_B212 v0 v1 v2 v3 1 σ
  else
  if v1 = 1 then
    Mo_flow_B212 v0 v1 v2 v3 t0 σ
  else
  if v1 = 2 then
    if t0 = 0 then
      Mo_flow_B212 v0 v1 v2 v3 0 σ
    else
      if v3 < 0 then
        Mo_flow_B212 v0 v1 v2 v3 0 σ
      else
        if 16 ≤ v3 then
          Mo_flow_B212 v0 v1 v2 v3 0 σ
        else
          if v3 = 10 then
            Mo_flow_B212 v0 v1 v2 v3 0 σ
          else
            if v3 = 11 then
              Mo_flow_B212 v0 v1 v2 v3 0 σ
            else
              Mo_flow_B212 v0 v1 v2 v3 1 σ
  else
  if v1 = 3 then
    Mo_flow_B212 v0 v1 v2 v3 t0 σ
  else
  if v1 = 4 then
    if v2 < 0 then
      Mo_flow_B212 v0 v1 v2 v3 0 σ
    else
      if 4 ≤ v2 then
        Mo_flow_B212 v0 v1 v2 v3 0 σ
      else
        Mo_flow_B212 v0 v1 v2 v3 1 σ
  else
  if v1 = 5 then
    Mo_flow_B159 v0 v1 v2 v3 σ
  else
  if v1 = 6 then
    Mo_flow_B159 v0 v1 v2 v3 σ
  else
  if v1 = 7 then
    Mo_flow_B212 v0 v1 v2 v3 1 σ
  else
  if v1 = 8 then
    if t0 = 0 then
      Mo_flow_B212 v0 v1 v2 v3 0 σ
    else
      cl (Mo_isRegister v3 σ) fun x2 σ1 =>
      if x2 = 0 then
        Mo_flow_B212 v0 v1 v2 v3 0 σ1
      else
        Mo_flow_B212 v0 v1 v2 v3 1 σ1
  else
  Mo_flow_B212 v0 v1 v2 v3 0 σ
def Mo_flow (v0 : Nat) (v1 : Int32) (v2 : Int32) (v3 : Int32) (σ : St) : Option (Int32 × St) :=
  nm (s2 σ v0 0 0) fun σ1 =>
  if v2 < 0 then
    Mo_flow_B20 v0 v1 v2 v3 0 σ1
  else
    if 40 ≤ v2 then
      Mo_flow_B20 v0 v1 v2 v3 0 σ1
    else
      Mo_flow_B20 v0 v1 v2 v3 1 σ1
def Mo_clear (v0 : Nat) (σ : St) : Option (Int32 × St) :=
  nm (s2 σ v0 0 0) fun σ1 =>
  nm (σ1 v0 8) fun x2 =>
  nm (s2 σ1 v0 8 0) fun σ3 =>
  some (x2, σ3)
def Mo_put (v0 : Nat) (v1 : Int32) (σ : St) : Option (St) :=
  sa σ (ch v0 24) 16 (σ v0 25) (v1 &&& 255) fun σ1 =>
  nm (s2 σ1 v0 25 ((σ1 v0 25) + 1)) fun σ2 =>
  some σ2
def Mo_putFour_B2 : Nat → Nat → Int32 → Int32 → St → Option (St)
  | 0, _, _, _, _ => none
  | n + 1, v0, v1, v2, σ =>
    if 32 ≤ v2 then
      some σ
    else
      cv (Mo_put v0 (shr v1 v2) σ) fun σ1 =>
      nm (v2 + 8) fun x2 =>
      Mo_putFour_B2 n v0 v1 x2 σ1
def Mo_putFour (v0 : Nat) (v1 : Int32) (σ : St) : Option (St) :=
  Mo_putFour_B2 FU v0 v1 0 σ
def Mo_isSmall (v0 : Int32) (σ : St) : Option (Int32 × St) :=
  if v0 < (-128) then
    some (0, σ)
  else
    if 127 < v0 then
      some (0, σ)
    else
      some (1, σ)
def Mo_putRegister (v0 : Nat) (v1 : Int32) (v2 : Int32) (σ : St) : Option (St) :=
  cv (Mo_put v0 ((192 + (8 * v1)) + v2) σ) fun σ1 =>
  some σ1
def Mo_putMemory_B179 (v0 : Nat) (v3 : Int32) (v4 : Int32) (v6 : Int32) (σ : St) : Option (St) :=
  if ¬ v6 = 1 then
    if v6 = 2 then
      cv (Mo_putFour v0 v3 σ) fun σ1 =>
      some σ1
    else
      if ¬ v4 = 8 then
        some σ
      else
        cv (Mo_putFour v0 v3 σ) fun σ2 =>
        some σ2
  else
    cv (Mo_put v0 v3 σ) fun σ3 =>
    if v6 = 2 then
      cv (Mo_putFour v0 v3 σ3) fun σ4 =>
      some σ4
    else
      if ¬ v4 = 8 then
        some σ3
      else
        cv (Mo_putFour v0 v3 σ3) fun σ5 =>
        some σ5
def Mo_putMemory_B167 (v0 : Nat) (v2 : Int32) (v3 : Int32) (v4 : Int32) (v6 : Int32) (t0 : Nat) (t1 : Int32) (t2 : Int32) (σ : St) : Option (St) :=
  cv (Mo_put t0 ((t1 + t2) + (shl (shr v2 8) 6)) σ) fun σ1 =>
  Mo_putMemory_B179 v0 v3 v4 v6 σ1
def Mo_putMemory_B128 (v0 : Nat) (v2 : Int32) (v3 : Int32) (v4 : Int32) (v5 : Int32) (v6 : Int32) (v7 : Int32) (t0 : Nat) (t1 : Int32) (t2 : Int32) (σ : St) : Option (St) :=
  cv (Mo_put t0 (t1 + t2) σ) fun σ1 =>
  if v7 = 0 then
    Mo_putMemory_B179 v0 v3 v4 v6 σ1
  else
    if ¬ v5 = 8 then
      if ¬ v4 = 8 then
        Mo_putMemory_B167 v0 v2 v3 v4 v6 v0 (v5 * 8) v4 σ1
      else
        Mo_putMemory_B167 v0 v2 v3 v4 v6 v0 (v5 * 8) 5 σ1
    else
      if ¬ v4 = 8 then
        Mo_putMemory_B167 v0 v2 v3 v4 v6 v0 (4 * 8) v4 σ1
      else
        Mo_putMemory_B167 v0 v2 v3 v4 v6 v0 (4 * 8) 5 σ1
def Mo_putMemory_B104 (v0 : Nat) (v1 : Int32) (v2 : Int32) (v3 : Int32) (v4 : Int32) (v5 : Int32) (v6 : Int32) (t0 : Int32) (σ : St) : Option (St) :=
  if t0 = 0 then
    Mo_putMemory_B128 v0 v2 v3 v4 v5 v6 t0 v0 ((64 * v6) + (8 * v1)) v4 σ
  else
    Mo_putMemory_B128 v0 v2 v3 v4 v5 v6 t0 v0 ((64 * v6) + (8 * v1)) 4 σ
def Mo_putMemory_B77 (v0 : Nat) (v1 : Int32) (v2 : Int32) (v3 : Int32) (v4 : Int32) (v5 : Int32) (t0 : Int32) (σ : St) : Option (St) :=
  if v4 = 4 then
    Mo_putMemory_B104 v0 v1 v2 v3 v4 v5 t0 1 σ
  else
    if v5 < 8 then
      Mo_putMemory_B104 v0 v1 v2 v3 v4 v5 t0 1 σ
    else
      if ¬ v4 = 8 then
        Mo_putMemory_B104 v0 v1 v2 v3 v4 v5 t0 0 σ
      else
        Mo_putMemory_B104 v0 v1 v2 v3 v4 v5 t0 1 σ
def Mo_putMemory_B44 (v0 : Nat) (v1 : Int32) (v2 : Int32) (v3 : Int32) (v4 : Int32) (v5 : Int32) (σ : St) : Option (St) :=
  if v4 = 8 then
    Mo_putMemory_B77 v0 v1 v2 v3 v4 v5 0 σ
  else
    if ¬ v3 = 0 then
      cl (Mo_isSmall v3 σ) fun x2 σ1 =>
      if x2 = 0 then
        Mo_putMemory_B77 v0 v1 v2 v3 v4 v5 2 σ1
      else
        Mo_putMemory_B77 v0 v1 v2 v3 v4 v5 1 σ1
    else
      if v4 = 5 then
        cl (Mo_isSmall v3 σ) fun x4 σ3 =>
        if x4 = 0 then
          Mo_putMemory_B77 v0 v1 v2 v3 v4 v5 2 σ3
        else
          Mo_putMemory_B77 v0 v1 v2 v3 v4 v5 1 σ3
      else
        Mo_putMemory_B77 v0 v1 v2 v3 v4 v5 0 σ
def Mo_putMemory (v0 : Nat) (v1 : Int32) (v2 : Int32) (v3 : Int32) (σ : St) : Option (St) :=
  nm (v2 &&& 15) fun x1 =>
  nm ((shr v2 4) &&& 15) fun x2 =>
  if ¬ x1 = 8 then
    Mo_putMemory_B44 v0 v1 v2 v3 x1 x2 σ
  else
    if ¬ x2 = 8 then
      Mo_putMemory_B44 v0 v1 v2 v3 x1 x2 σ
    else
      cv (Mo_put v0 ((8 * v1) + 5) σ) fun σ3 =>
      cv (Mo_putFour v0 v3 σ3) fun σ4 =>
      some σ4
def Mo_leftCode (v0 : Int32) (σ : St) : Option (Int32 × St) :=
  if 8 ≤ v0 then
    if ¬ v0 = 8 then
      some (133, σ)
    else
      some (137, σ)
  else
    some (1 + (8 * v0), σ)
def Mo_encodeNumber_B197 (v0 : Nat) (v5 : Int32) (v9 : Int32) (σ : St) : Option (St) :=
  if v9 = 0 then
    cv (Mo_putFour v0 v5 σ) fun σ1 =>
    some σ1
  else
    cv (Mo_put v0 v5 σ) fun σ2 =>
    some σ2
def Mo_encodeNumber_B165 (v0 : Nat) (v1 : Int32) (v3 : Int32) (v4 : Int32) (v5 : Int32) (v6 : Int32) (v8 : Int32) (v9 : Int32) (t0 : Nat) (t1 : Int32) (σ : St) : Option (St) :=
  cv (Mo_put t0 t1 σ) fun σ1 =>
  if v6 = 0 then
    ld σ1 (ch v0 16) 240 v1 fun x2 =>
    cv (Mo_putMemory v0 v8 v4 x2 σ1) fun σ3 =>
    Mo_encodeNumber_B197 v0 v5 v9 σ3
  else
    cv (Mo_putRegister v0 v8 v3 σ1) fun σ4 =>
    Mo_encodeNumber_B197 v0 v5 v9 σ4
def Mo_encodeNumber_B125 (v0 : Nat) (v1 : Int32) (v2 : Int32) (v3 : Int32) (v4 : Int32) (v5 : Int32) (v6 : Int32) (v7 : Int32) (v8 : Int32) (t0 : Int32) (σ : St) : Option (St) :=
  if ¬ v2 = 8 then
    if v7 = 0 then
      if t0 = 0 then
        Mo_encodeNumber_B165 v0 v1 v3 v4 v5 v6 v8 t0 v0 129 σ
      else
        Mo_encodeNumber_B165 v0 v1 v3 v4 v5 v6 v8 t0 v0 131 σ
    else
      Mo_encodeNumber_B165 v0 v1 v3 v4 v5 v6 v8 t0 v0 193 σ
  else
    Mo_encodeNumber_B165 v0 v1 v3 v4 v5 v6 v8 t0 v0 199 σ
def Mo_encodeNumber_B99 (v0 : Nat) (v1 : Int32) (v2 : Int32) (v3 : Int32) (v4 : Int32) (v5 : Int32) (v6 : Int32) (v7 : Int32) (t0 : Int32) (σ : St) : Option (St) :=
  if ¬ v7 = 0 then
    Mo_encodeNumber_B125 v0 v1 v2 v3 v4 v5 v6 v7 t0 1 σ
  else
    if 8 ≤ v2 then
      Mo_encodeNumber_B125 v0 v1 v2 v3 v4 v5 v6 v7 t0 0 σ
    else
      cl (Mo_isSmall v5 σ) fun x2 σ1 =>
      if x2 = 0 then
        Mo_encodeNumber_B125 v0 v1 v2 v3 v4 v5 v6 v7 t0 0 σ1
      else
        Mo_encodeNumber_B125 v0 v1 v2 v3 v4 v5 v6 v7 t0 1 σ1
def Mo_encodeNumber_B55 (v0 : Nat) (v1 : Int32) (v2 : Int32) (v3 : Int32) (v4 : Int32) (v5 : Int32) (v6 : Int32) (t0 : Int32) (σ : St) : Option (St) :=
  if ¬ v2 = 8 then
    if ¬ v2 = 14 then
      if ¬ v2 = 15 then
        if ¬ v2 = 16 then
          Mo_encodeNumber_B99 v0 v1 v2 v3 v4 v5 v6 t0 v2 σ
        else
          Mo_encodeNumber_B99 v0 v1 v2 v3 v4 v5 v6 t0 7 σ
      else
        Mo_encodeNumber_B99 v0 v1 v2 v3 v4 v5 v6 t0 5 σ
    else
      Mo_encodeNumber_B99 v0 v1 v2 v3 v4 v5 v6 t0 4 σ
  else
    Mo_encodeNumber_B99 v0 v1 v2 v3 v4 v5 v6 t0 0 σ
def Mo_encodeNumber_B15 (v0 : Nat) (v1 : Int32) (v2 : Int32) (v3 : Int32) (v4 : Int32) (v5 : Int32) (t0 : Int32) (σ : St) : Option (St) :=
  if ¬ v2 = 8 then
    if v2 < 14 then
      Mo_encodeNumber_B55 v0 v1 v2 v3 v4 v5 t0 0 σ
    else
      Mo_encodeNumber_B55 v0 v1 v2 v3 v4 v5 t0 1 σ
  else
    if t0 = 0 then
      if v2 < 14 then
        Mo_encodeNumber_B55 v0 v1 v2 v3 v4 v5 t0 0 σ
      else
        Mo_encodeNumber_B55 v0 v1 v2 v3 v4 v5 t0 1 σ
    else
      cv (Mo_put v0 (184 + v3) σ) fun σ1 =>
      cv (Mo_putFour v0 v5 σ1) fun σ2 =>
      some σ2
def Mo_encodeNumber (v0 : Nat) (v1 : Int32) (v2 : Int32) (v3 : Int32) (v4 : Int32) (v5 : Int32) (σ : St) : Option (St) :=
  ld σ (ch v0 13) 240 v1 fun x1 =>
  if ¬ x1 = 5 then
    Mo_encodeNumber_B15 v0 v1 v2 v3 v4 v5 0 σ
  else
    Mo_encodeNumber_B15 v0 v1 v2 v3 v4 v5 1 σ
def Mo_encode_B126 (v0 : Nat) (v2 : Int32) (v3 : Int32) (σ : St) : Option (St) :=
  cv (Mo_put v0 247 σ) fun σ1 =>
  cv (Mo_putRegister v0 (v2 - 10) v3 σ1) fun σ2 =>
  some σ2
def Mo_encode_B266 (v0 : Nat) (v1 : Int32) (v3 : Int32) (v4 : Int32) (t0 : Nat) (t1 : Int32) (σ : St) : Option (St) :=
  cv (Mo_put t0 t1 σ) fun σ1 =>
  ld σ1 (ch v0 16) 240 v1 fun x2 =>
  cv (Mo_putMemory v0 v3 v4 x2 σ1) fun σ3 =>
  some σ3
def Mo_encode_B223 (v0 : Nat) (v1 : Int32) (v2 : Int32) (v3 : Int32) (v4 : Int32) (σ : St) : Option (St) :=
  if 8 ≤ v2 then
    if ¬ v2 = 8 then
      if ¬ v2 = 10 then
        Mo_encode_B266 v0 v1 v3 v4 v0 175 σ
      else
        Mo_encode_B266 v0 v1 v3 v4 v0 141 σ
    else
      Mo_encode_B266 v0 v1 v3 v4 v0 139 σ
  else
    Mo_encode_B266 v0 v1 v3 v4 v0 (3 + (8 * v2)) σ
def Mo_encode_B351 (v0 : Nat) (v5 : Int32) (t0 : Nat) (t1 : Int32) (σ : St) : Option (St) :=
  cv (Mo_put t0 t1 σ) fun σ1 =>
  cl (Mo_isSmall v5 σ1) fun x3 σ2 =>
  if x3 = 0 then
    cv (Mo_putFour v0 v5 σ2) fun σ4 =>
    some σ4
  else
    cv (Mo_put v0 v5 σ2) fun σ5 =>
    some σ5
def Mo_encode_B380 (v0 : Nat) (v1 : Int32) (v2 : Int32) (v3 : Int32) (v4 : Int32) (v5 : Int32) (σ : St) : Option (St) :=
  cv (Mo_encodeNumber v0 v1 v2 v3 v4 v5 σ) fun σ1 =>
  some σ1
def Mo_encode (v0 : Nat) (v1 : Int32) (σ : St) : Option (St) :=
  ld σ (ch v0 12) 240 v1 fun x1 =>
  ld σ (ch v0 14) 240 v1 fun x2 =>
  ld σ (ch v0 15) 240 v1 fun x3 =>
  ld σ (ch v0 17) 240 v1 fun x4 =>
  nm (s2 σ v0 25 0) fun σ5 =>
  ld σ5 (ch v0 13) 240 v1 fun x6 =>
  if x6 = 0 then
    if ¬ x1 = 21 then
      cv (Mo_put v0 244 σ5) fun σ7 =>
      some σ7
    else
      cv (Mo_put v0 144 σ5) fun σ8 =>
      some σ8
  else
  if x6 = 1 then
    if x1 = 12 then
      Mo_encode_B126 v0 x1 x2 σ5
    else
      if ¬ x1 = 13 then
        cv (Mo_put v0 ((64 + (8 * (x1 - 17))) + x2) σ5) fun σ9 =>
        some σ9
      else
        Mo_encode_B126 v0 x1 x2 σ5
  else
  if x6 = 2 then
    if ¬ x1 = 11 then
      cl (Mo_leftCode x1 σ5) fun x11 σ10 =>
      cv (Mo_put v0 x11 σ10) fun σ12 =>
      cv (Mo_putRegister v0 x3 x2 σ12) fun σ13 =>
      some σ13
    else
      cv (Mo_put v0 15 σ5) fun σ14 =>
      cv (Mo_put v0 175 σ14) fun σ15 =>
      cv (Mo_putRegister v0 x2 x3 σ15) fun σ16 =>
      some σ16
  else
  if x6 = 3 then
    if ¬ x1 = 11 then
      Mo_encode_B223 v0 v1 x1 x2 x3 σ5
    else
      cv (Mo_put v0 15 σ5) fun σ17 =>
      Mo_encode_B223 v0 v1 x1 x2 x3 σ17
  else
  if x6 = 4 then
    cl (Mo_leftCode x1 σ5) fun x19 σ18 =>
    cv (Mo_put v0 x19 σ18) fun σ20 =>
    ld σ20 (ch v0 16) 240 v1 fun x21 =>
    cv (Mo_putMemory v0 x2 x3 x21 σ20) fun σ22 =>
    some σ22
  else
  if x6 = 5 then
    Mo_encode_B380 v0 v1 x1 x2 x3 x4 σ5
  else
  if x6 = 6 then
    Mo_encode_B380 v0 v1 x1 x2 x3 x4 σ5
  else
  if x6 = 7 then
    cv (Mo_put v0 247 σ5) fun σ23 =>
    ld σ23 (ch v0 16) 240 v1 fun x24 =>
    cv (Mo_putMemory v0 (x1 - 10) x3 x24 σ23) fun σ25 =>
    some σ25
  else
  if x6 = 8 then
    cl (Mo_isSmall x4 σ5) fun x27 σ26 =>
    if x27 = 0 then
      Mo_encode_B351 v0 x4 v0 104 σ26
    else
      Mo_encode_B351 v0 x4 v0 106 σ26
  else
  Mo_encode_B380 v0 v1 x1 x2 x3 x4 σ5
def Mo_lay_B58 (v0 : Nat) (v1 : Int32) (σ : St) : Option (Int32 × St) :=
  nm (σ v0 22) fun x1 =>
  nm (s2 σ v0 22 ((σ v0 22) + v1)) fun σ2 =>
  some (x1, σ2)
def Mo_lay_B33 (v0 : Nat) (v1 : Int32) (v2 : Int32) (σ : St) : Option (Int32 × St) :=
  if v2 = 0 then
    Mo_lay_B58 v0 v1 σ
  else
    nm (s2 σ v0 22 ((σ v0 22) + ((16 - (rem (σ v0 22) 16)) - v1))) fun σ1 =>
    Mo_lay_B58 v0 v1 σ1
def Mo_lay (v0 : Nat) (v1 : Int32) (v2 : Int32) (σ : St) : Option (Int32 × St) :=
  if ((rem (σ v0 22) 16) + v1) ≤ 16 then
    Mo_lay_B33 v0 v1 v2 σ
  else
    nm (s2 σ v0 22 ((σ v0 22) + (16 - (rem (σ v0 22) 16)))) fun σ1 =>
    Mo_lay_B33 v0 v1 v2 σ1
def Mo_sizeOf (v0 : Nat) (v1 : Int32) (σ : St) : Option (Int32 × St) :=
  ld σ (ch v0 11) 240 v1 fun x1 =>
  if x1 = 1 then
    ld σ (ch v0 21) 120 v1 fun x2 =>
    if x2 = 0 then
      some (2, σ)
    else
      some (5, σ)
  else
  if x1 = 2 then
    ld σ (ch v0 21) 120 v1 fun x3 =>
    if x3 = 0 then
      some (2, σ)
    else
      some (6, σ)
  else
  if x1 = 9 then
    cv (Mo_encode v0 v1 σ) fun σ4 =>
    some (σ4 v0 25, σ4)
  else
  some (5, σ)
def Mo_layAll_B65 (K7 : Nat → Int32 → St → Option (St)) (v0 : Nat) (v1 : Int32) (σ : St) : Option (St) :=
  sa σ (ch v0 18) 240 v1 (σ v0 22) fun σ1 =>
  ld σ1 (ch v0 14) 240 v1 fun x2 =>
  sa σ1 (ch v0 19) 80 x2 (σ1 v0 22) fun σ3 =>
  nm (v1 + 1) fun x4 =>
  K7 v0 x4 σ3
def Mo_layAll_B7 : Nat → Nat → Int32 → St → Option (St)
  | 0, _, _, _ => none
  | n + 1, v0, v1, σ =>
    if (σ v0 8) ≤ v1 then
      some σ
    else
      ld σ (ch v0 11) 240 v1 fun x1 =>
      if ¬ x1 = 0 then
        if ¬ x1 = 7 then
          cl (Mo_sizeOf v0 v1 σ) fun x3 σ2 =>
          if x1 = 3 then
            cl (Mo_lay v0 x3 1 σ2) fun x5 σ4 =>
            sa σ4 (ch v0 18) 240 v1 x5 fun σ6 =>
            nm (v1 + 1) fun x7 =>
            Mo_layAll_B7 n v0 x7 σ6
          else
            if x1 = 4 then
              cl (Mo_lay v0 x3 1 σ2) fun x9 σ8 =>
              sa σ8 (ch v0 18) 240 v1 x9 fun σ10 =>
              nm (v1 + 1) fun x11 =>
              Mo_layAll_B7 n v0 x11 σ10
            else
              if ¬ x1 = 6 then
                cl (Mo_lay v0 x3 0 σ2) fun x13 σ12 =>
                sa σ12 (ch v0 18) 240 v1 x13 fun σ14 =>
                nm (v1 + 1) fun x15 =>
                Mo_layAll_B7 n v0 x15 σ14
              else
                cl (Mo_lay v0 x3 1 σ2) fun x17 σ16 =>
                sa σ16 (ch v0 18) 240 v1 x17 fun σ18 =>
                nm (v1 + 1) fun x19 =>
                Mo_layAll_B7 n v0 x19 σ18
        else
          cl (Mo_lay v0 1 0 σ) fun x21 σ20 =>
          sa σ20 (ch v0 18) 240 v1 x21 fun σ22 =>
          cl (Mo_lay v0 5 0 σ22) fun x24 σ23 =>
          nm (v1 + 1) fun x25 =>
          Mo_layAll_B7 n v0 x25 σ23
      else
        ld σ (ch v0 15) 240 v1 fun x26 =>
        if ¬ x26 = 1 then
          Mo_layAll_B65 (Mo_layAll_B7 n) v0 v1 σ
        else
          if (rem (σ v0 22) 16) = 0 then
            Mo_layAll_B65 (Mo_layAll_B7 n) v0 v1 σ
          else
            nm (s2 σ v0 22 ((σ v0 22) + (16 - (rem (σ v0 22) 16)))) fun σ27 =>
            Mo_layAll_B65 (Mo_layAll_B7 n) v0 v1 σ27
def Mo_layAll (v0 : Nat) (σ : St) : Option (St) :=
  nm (s2 σ v0 22 0) fun σ1 =>
  Mo_layAll_B7 FU v0 0 σ1
def Mo_far (v0 : Nat) (v1 : Int32) (σ : St) : Option (Int32 × St) :=
  ld σ (ch v0 14) 240 v1 fun x1 =>
  ld σ (ch v0 19) 80 x1 fun x2 =>
  ld σ (ch v0 18) 240 v1 fun x3 =>
  cl (Mo_sizeOf v0 v1 σ) fun x5 σ4 =>
  some ((x2 - x3) - x5, σ4)
def Mo_lengthens_B72 : Nat → Nat → Int32 → Int32 → St → Option (Int32 × St)
  | 0, _, _, _, _ => none
  | n + 1, v0, v1, v2, σ =>
    if (σ v0 8) ≤ v2 then
      zb v1 <|
      some (v1, σ)
    else
      ld σ (ch v0 21) 120 v2 fun x1 =>
      if ¬ x1 = 0 then
        sa σ (ch v0 21) 120 v2 1 fun σ2 =>
        nm (v2 + 1) fun x3 =>
        Mo_lengthens_B72 n v0 v1 x3 σ2
      else
        ld σ (ch v0 54) 1024 v2 fun x4 =>
        if ¬ x4 = 1 then
          sa σ (ch v0 21) 120 v2 0 fun σ5 =>
          nm (v2 + 1) fun x6 =>
          Mo_lengthens_B72 n v0 v1 x6 σ5
        else
          sa σ (ch v0 21) 120 v2 1 fun σ7 =>
          nm (v2 + 1) fun x8 =>
          Mo_lengthens_B72 n v0 v1 x8 σ7
def Mo_lengthens_B32 (K4 : Nat → Int32 → Int32 → St → Option (Int32 × St)) (v0 : Nat) (v1 : Int32) (v2 : Int32) (σ : St) : Option (Int32 × St) :=
  ld σ (ch v0 21) 120 v2 fun x1 =>
  if ¬ x1 = 0 then
    nm (v2 + 1) fun x2 =>
    K4 v0 v1 x2 σ
  else
    cl (Mo_far v0 v2 σ) fun x4 σ3 =>
    cl (Mo_isSmall x4 σ3) fun x6 σ5 =>
    if x6 = 0 then
      sa σ5 (ch v0 54) 1024 v2 1 fun σ7 =>
      nm (v2 + 1) fun x8 =>
      K4 v0 1 x8 σ7
    else
      nm (v2 + 1) fun x9 =>
      K4 v0 v1 x9 σ5
def Mo_lengthens_B4 : Nat → Nat → Int32 → Int32 → St → Option (Int32 × St)
  | 0, _, _, _, _ => none
  | n + 1, v0, v1, v2, σ =>
    if (σ v0 8) ≤ v2 then
      Mo_lengthens_B72 FU v0 v1 0 σ
    else
      ld σ (ch v0 11) 240 v2 fun x1 =>
      if x1 = 1 then
        Mo_lengthens_B32 (Mo_lengthens_B4 n) v0 v1 v2 σ
      else
        ld σ (ch v0 11) 240 v2 fun x2 =>
        if ¬ x2 = 2 then
          nm (v2 + 1) fun x3 =>
          Mo_lengthens_B4 n v0 v1 x3 σ
        else
          Mo_lengthens_B32 (Mo_lengthens_B4 n) v0 v1 v2 σ
def Mo_lengthens (v0 : Nat) (σ : St) : Option (Int32 × St) :=
  Mo_lengthens_B4 FU v0 0 0 σ
def Mo_firstWrong_B153 (K61 : Nat → Int32 → St → Option (Int32 × St)) (v0 : Nat) (v1 : Int32) (v2 : Int32) (σ : St) : Option (Int32 × St) :=
  if ¬ v2 = 8 then
    nm (v1 + 1) fun x1 =>
    K61 v0 x1 σ
  else
    ld σ (ch v0 14) 240 v1 fun x2 =>
    ld σ (ch v0 20) 80 x2 fun x3 =>
    ld σ (ch v0 15) 240 x3 fun x4 =>
    if ¬ x4 = 0 then
      nm (v1 + 1) fun x5 =>
      K61 v0 x5 σ
    else
      some (3000 + v1, σ)
def Mo_firstWrong_B127 (K61 : Nat → Int32 → St → Option (Int32 × St)) (v0 : Nat) (v1 : Int32) (v2 : Int32) (t0 : Int32) (σ : St) : Option (Int32 × St) :=
  if t0 = 0 then
    Mo_firstWrong_B153 K61 v0 v1 v2 σ
  else
    ld σ (ch v0 14) 240 v1 fun x1 =>
    ld σ (ch v0 20) 80 x1 fun x2 =>
    if ¬ x2 = (-1) then
      Mo_firstWrong_B153 K61 v0 v1 v2 σ
    else
      some (2000 + v1, σ)
def Mo_firstWrong_B101 (K61 : Nat → Int32 → St → Option (Int32 × St)) (v0 : Nat) (v1 : Int32) (v2 : Int32) (σ : St) : Option (Int32 × St) :=
  if v2 = 1 then
    Mo_firstWrong_B127 K61 v0 v1 v2 1 σ
  else
    if v2 = 2 then
      Mo_firstWrong_B127 K61 v0 v1 v2 1 σ
    else
      if v2 = 3 then
        Mo_firstWrong_B127 K61 v0 v1 v2 1 σ
      else
        if ¬ v2 = 8 then
          Mo_firstWrong_B127 K61 v0 v1 v2 0 σ
        else
          Mo_firstWrong_B127 K61 v0 v1 v2 1 σ
def Mo_firstWrong_B61 : Nat → Nat → Int32 → St → Option (Int32 × St)
  | 0, _, _, _ => none
  | n + 1, v0, v1, σ =>
    if (σ v0 8) ≤ v1 then
      some (0, σ)
    else
      ld σ (ch v0 11) 240 v1 fun x1 =>
      if ¬ x1 = 0 then
        Mo_firstWrong_B101 (Mo_firstWrong_B61 n) v0 v1 x1 σ
      else
        ld σ (ch v0 14) 240 v1 fun x2 =>
        ld σ (ch v0 20) 80 x2 fun x3 =>
        if x3 = v1 then
          Mo_firstWrong_B101 (Mo_firstWrong_B61 n) v0 v1 x1 σ
        else
          some (1000 + v1, σ)
def Mo_firstWrong_B28 : Nat → Nat → Int32 → St → Option (Int32 × St)
  | 0, _, _, _ => none
  | n + 1, v0, v1, σ =>
    if v1 < 0 then
      Mo_firstWrong_B61 FU v0 0 σ
    else
      ld σ (ch v0 11) 240 v1 fun x1 =>
      if ¬ x1 = 0 then
        nm (v1 + (-1)) fun x2 =>
        Mo_firstWrong_B28 n v0 x2 σ
      else
        ld σ (ch v0 14) 240 v1 fun x3 =>
        sa σ (ch v0 20) 80 x3 v1 fun σ4 =>
        nm (v1 + (-1)) fun x5 =>
        Mo_firstWrong_B28 n v0 x5 σ4
def Mo_firstWrong_B2 : Nat → Nat → Int32 → St → Option (Int32 × St)
  | 0, _, _, _ => none
  | n + 1, v0, v1, σ =>
    if 40 ≤ v1 then
      nm ((σ v0 8) - 1) fun x1 =>
      Mo_firstWrong_B28 FU v0 x1 σ
    else
      sa σ (ch v0 20) 80 v1 (-1) fun σ2 =>
      nm (v1 + 1) fun x3 =>
      Mo_firstWrong_B2 n v0 x3 σ2
def Mo_firstWrong (v0 : Nat) (σ : St) : Option (Int32 × St) :=
  Mo_firstWrong_B2 FU v0 0 σ
def Mo_keepProgram_B151 : Nat → Nat → Int32 → St → Option (St)
  | 0, _, _, _ => none
  | n + 1, v0, v1, σ =>
    if 40 ≤ v1 then
      nm (s2 σ v0 55 (σ v0 22)) fun σ1 =>
      some σ1
    else
      ld σ (ch v0 20) 80 v1 fun x2 =>
      sa σ (ch v0 20) 80 (40 + v1) x2 fun σ3 =>
      ld σ3 (ch v0 19) 80 v1 fun x4 =>
      sa σ3 (ch v0 19) 80 (40 + v1) x4 fun σ5 =>
      nm (v1 + 1) fun x6 =>
      Mo_keepProgram_B151 n v0 x6 σ5
def Mo_keepProgram_B15 : Nat → Nat → Int32 → St → Option (St)
  | 0, _, _, _ => none
  | n + 1, v0, v1, σ =>
    if (σ v0 8) ≤ v1 then
      Mo_keepProgram_B151 FU v0 0 σ
    else
      ld σ (ch v0 11) 240 v1 fun x1 =>
      sa σ (ch v0 11) 240 (120 + v1) x1 fun σ2 =>
      ld σ2 (ch v0 12) 240 v1 fun x3 =>
      sa σ2 (ch v0 12) 240 (120 + v1) x3 fun σ4 =>
      ld σ4 (ch v0 13) 240 v1 fun x5 =>
      sa σ4 (ch v0 13) 240 (120 + v1) x5 fun σ6 =>
      ld σ6 (ch v0 14) 240 v1 fun x7 =>
      sa σ6 (ch v0 14) 240 (120 + v1) x7 fun σ8 =>
      ld σ8 (ch v0 15) 240 v1 fun x9 =>
      sa σ8 (ch v0 15) 240 (120 + v1) x9 fun σ10 =>
      ld σ10 (ch v0 16) 240 v1 fun x11 =>
      sa σ10 (ch v0 16) 240 (120 + v1) x11 fun σ12 =>
      ld σ12 (ch v0 17) 240 v1 fun x13 =>
      sa σ12 (ch v0 17) 240 (120 + v1) x13 fun σ14 =>
      ld σ14 (ch v0 18) 240 v1 fun x15 =>
      sa σ14 (ch v0 18) 240 (120 + v1) x15 fun σ16 =>
      nm (v1 + 1) fun x17 =>
      Mo_keepProgram_B15 n v0 x17 σ16
def Mo_keepProgram (v0 : Nat) (σ : St) : Option (St) :=
  nm (s2 σ v0 10 1) fun σ1 =>
  nm (s2 σ1 v0 9 (σ1 v0 8)) fun σ2 =>
  Mo_keepProgram_B15 FU v0 0 σ2
def Mo_starting (v0 : Nat) (v1 : Int32) (σ : St) : Option (St) :=
  cl (Mo_keeps v0 (ch v0 23) v1 (ch v0 54) σ) fun x2 σ1 =>
  some σ1
def Mo_copyBytes_B2 : Nat → Nat → Int32 → Int32 → St → Option (St)
  | 0, _, _, _, _ => none
  | n + 1, v0, v1, v2, σ =>
    if (σ v0 25) ≤ v2 then
      some σ
    else
      ld σ (ch v0 24) 16 v2 fun x1 =>
      sa σ (ch v0 23) 6000 (v1 + v2) x1 fun σ2 =>
      nm (v2 + 1) fun x3 =>
      Mo_copyBytes_B2 n v0 v1 x3 σ2
def Mo_copyBytes (v0 : Nat) (v1 : Int32) (σ : St) : Option (St) :=
  Mo_copyBytes_B2 FU v0 v1 0 σ
def Mo_putFar_B60 (v0 : Nat) (v1 : Int32) (t0 : Int32) (t1 : Int32) (σ : St) : Option (St) :=
  nm (t0 - t1) fun x1 =>
  ld σ (ch v0 21) 120 v1 fun x2 =>
  if x2 = 0 then
    cv (Mo_put v0 x1 σ) fun σ3 =>
    some σ3
  else
    cv (Mo_putFour v0 x1 σ) fun σ4 =>
    some σ4
def Mo_putFar (v0 : Nat) (v1 : Int32) (σ : St) : Option (St) :=
  ld σ (ch v0 14) 240 v1 fun x1 =>
  ld σ (ch v0 19) 80 x1 fun x2 =>
  ld σ (ch v0 18) 240 v1 fun x3 =>
  ld σ (ch v0 11) 240 v1 fun x4 =>
  if ¬ x4 = 1 then
    ld σ (ch v0 21) 120 v1 fun x5 =>
    if x5 = 0 then
      Mo_putFar_B60 v0 v1 (x2 - x3) 2 σ
    else
      Mo_putFar_B60 v0 v1 (x2 - x3) 6 σ
  else
    ld σ (ch v0 21) 120 v1 fun x6 =>
    if x6 = 0 then
      Mo_putFar_B60 v0 v1 (x2 - x3) 2 σ
    else
      Mo_putFar_B60 v0 v1 (x2 - x3) 5 σ
def Mo_putPair (v0 : Nat) (v1 : Int32) (v2 : Int32) (σ : St) : Option (St) :=
  cv (Mo_put v0 131 σ) fun σ1 =>
  cv (Mo_put v0 (224 + v2) σ1) fun σ2 =>
  cv (Mo_put v0 240 σ2) fun σ3 =>
  cv (Mo_put v0 255 σ3) fun σ4 =>
  if ¬ v1 = 27 then
    cv (Mo_putRegister v0 2 v2 σ4) fun σ5 =>
    some σ5
  else
    cv (Mo_putRegister v0 4 v2 σ4) fun σ6 =>
    some σ6
def Mo_write_B106 (v0 : Nat) (v1 : Int32) (v2 : Int32) (t0 : Nat) (t1 : Int32) (σ : St) : Option (St) :=
  cv (Mo_put t0 t1 σ) fun σ1 =>
  cv (Mo_putFar v0 v1 σ1) fun σ2 =>
  cv (Mo_copyBytes v0 v2 σ2) fun σ3 =>
  some σ3
def Mo_write_B150 (v0 : Nat) (v1 : Int32) (v2 : Int32) (t0 : Nat) (t1 : Int32) (σ : St) : Option (St) :=
  ld σ (ch v0 15) 240 v1 fun x1 =>
  cv (Mo_put t0 (t1 + x1) σ) fun σ2 =>
  cv (Mo_putFar v0 v1 σ2) fun σ3 =>
  cv (Mo_copyBytes v0 v2 σ3) fun σ4 =>
  some σ4
def Mo_write_B132 (v0 : Nat) (v1 : Int32) (v2 : Int32) (σ : St) : Option (St) :=
  ld σ (ch v0 21) 120 v1 fun x1 =>
  if x1 = 0 then
    Mo_write_B150 v0 v1 v2 v0 112 σ
  else
    Mo_write_B150 v0 v1 v2 v0 128 σ
def Mo_write_B168 (v0 : Nat) (v1 : Int32) (v2 : Int32) (v3 : Int32) (σ : St) : Option (St) :=
  cv (Mo_put v0 232 σ) fun σ1 =>
  if ¬ v3 = 3 then
    ld σ1 (ch v0 14) 240 v1 fun x2 =>
    cv (Mo_putFour v0 ((((16 * x2) - 256) - v2) - 5) σ1) fun σ3 =>
    cv (Mo_copyBytes v0 v2 σ3) fun σ4 =>
    some σ4
  else
    ld σ1 (ch v0 14) 240 v1 fun x5 =>
    ld σ1 (ch v0 19) 80 x5 fun x6 =>
    cv (Mo_putFour v0 ((x6 - v2) - 5) σ1) fun σ7 =>
    cv (Mo_copyBytes v0 v2 σ7) fun σ8 =>
    some σ8
def Mo_write_B297 (v0 : Nat) (t0 : Int32) (σ : St) : Option (St) :=
  nm (s2 σ v0 25 0) fun σ1 =>
  cv (Mo_putPair v0 27 1 σ1) fun σ2 =>
  cv (Mo_copyBytes v0 t0 σ2) fun σ3 =>
  some σ3
def Mo_write (v0 : Nat) (v1 : Int32) (σ : St) : Option (St) :=
  ld σ (ch v0 18) 240 v1 fun x1 =>
  ld σ (ch v0 11) 240 v1 fun x2 =>
  nm (s2 σ v0 25 0) fun σ3 =>
  if x2 = 0 then
    cv (Mo_copyBytes v0 x1 σ3) fun σ4 =>
    some σ4
  else
  if x2 = 1 then
    ld σ3 (ch v0 21) 120 v1 fun x5 =>
    if x5 = 0 then
      Mo_write_B106 v0 v1 x1 v0 235 σ3
    else
      Mo_write_B106 v0 v1 x1 v0 233 σ3
  else
  if x2 = 2 then
    ld σ3 (ch v0 21) 120 v1 fun x6 =>
    if x6 = 0 then
      Mo_write_B132 v0 v1 x1 σ3
    else
      cv (Mo_put v0 15 σ3) fun σ7 =>
      Mo_write_B132 v0 v1 x1 σ7
  else
  if x2 = 3 then
    Mo_write_B168 v0 v1 x1 x2 σ3
  else
  if x2 = 4 then
    Mo_write_B168 v0 v1 x1 x2 σ3
  else
  if x2 = 5 then
    if ¬ x2 = 5 then
      ld σ3 (ch v0 14) 240 v1 fun x8 =>
      cv (Mo_putPair v0 28 x8 σ3) fun σ9 =>
      cv (Mo_copyBytes v0 x1 σ9) fun σ10 =>
      some σ10
    else
      ld σ3 (ch v0 14) 240 v1 fun x11 =>
      cv (Mo_putPair v0 27 x11 σ3) fun σ12 =>
      cv (Mo_copyBytes v0 x1 σ12) fun σ13 =>
      some σ13
  else
  if x2 = 6 then
    if ¬ x2 = 5 then
      ld σ3 (ch v0 14) 240 v1 fun x14 =>
      cv (Mo_putPair v0 28 x14 σ3) fun σ15 =>
      cv (Mo_copyBytes v0 x1 σ15) fun σ16 =>
      some σ16
    else
      ld σ3 (ch v0 14) 240 v1 fun x17 =>
      cv (Mo_putPair v0 27 x17 σ3) fun σ18 =>
      cv (Mo_copyBytes v0 x1 σ18) fun σ19 =>
      some σ19
  else
  if x2 = 7 then
    cv (Mo_put v0 89 σ3) fun σ20 =>
    cv (Mo_copyBytes v0 x1 σ20) fun σ21 =>
    if (((rem x1 16) + 1) + 5) ≤ 16 then
      Mo_write_B297 v0 (x1 + 1) σ21
    else
      Mo_write_B297 v0 ((x1 - (rem x1 16)) + 16) σ21
  else
  if x2 = 8 then
    ld σ3 (ch v0 15) 240 v1 fun x22 =>
    cv (Mo_put v0 (184 + x22) σ3) fun σ23 =>
    ld σ23 (ch v0 14) 240 v1 fun x24 =>
    ld σ23 (ch v0 19) 80 x24 fun x25 =>
    cv (Mo_putFour v0 (256 + x25) σ23) fun σ26 =>
    cv (Mo_copyBytes v0 x1 σ26) fun σ27 =>
    some σ27
  else
  if x2 = 9 then
    cv (Mo_encode v0 v1 σ3) fun σ28 =>
    cv (Mo_copyBytes v0 x1 σ28) fun σ29 =>
    some σ29
  else
  if ¬ x2 = 5 then
    ld σ3 (ch v0 14) 240 v1 fun x30 =>
    cv (Mo_putPair v0 28 x30 σ3) fun σ31 =>
    cv (Mo_copyBytes v0 x1 σ31) fun σ32 =>
    some σ32
  else
    ld σ3 (ch v0 14) 240 v1 fun x33 =>
    cv (Mo_putPair v0 27 x33 σ3) fun σ34 =>
    cv (Mo_copyBytes v0 x1 σ34) fun σ35 =>
    some σ35
def Mo_build_B172 : Nat → Nat → Int32 → Int32 → St → Option (Int32 × St)
  | 0, _, _, _, _ => none
  | n + 1, v0, v3, v4, σ =>
    if (σ v0 8) ≤ v4 then
      cv (Mo_starting v0 v3 σ) fun σ1 =>
      cv (Mo_becomes v0 (ch v0 23) v3 σ1) fun σ2 =>
      cv (Mo_keepProgram v0 σ2) fun σ3 =>
      cl (Mo_faults v0 0 (-1) σ3) fun x5 σ4 =>
      some (0, σ4)
    else
      cv (Mo_write v0 v4 σ) fun σ6 =>
      nm (v4 + 1) fun x7 =>
      Mo_build_B172 n v0 v3 x7 σ6
def Mo_build_B132 : Nat → Nat → Int32 → Int32 → St → Option (Int32 × St)
  | 0, _, _, _, _ => none
  | n + 1, v0, v3, v4, σ =>
    if v3 ≤ v4 then
      Mo_build_B172 FU v0 v3 0 σ
    else
      if (σ v0 22) ≤ v4 then
        sa σ (ch v0 23) 6000 v4 244 fun σ1 =>
        nm (v4 + 1) fun x2 =>
        Mo_build_B132 n v0 v3 x2 σ1
      else
        sa σ (ch v0 23) 6000 v4 144 fun σ3 =>
        nm (v4 + 1) fun x4 =>
        Mo_build_B132 n v0 v3 x4 σ3
def Mo_build_B67 (K57 : Nat → Int32 → St → Option (Int32 × St)) : Nat → Nat → Int32 → St → Option (Int32 × St)
  | 0, _, _, _ => none
  | n + 1, v0, v3, σ =>
    if 120 ≤ v3 then
      cl (Mo_lengthens v0 σ) fun x2 σ1 =>
      K57 v0 x2 σ1
    else
      sa σ (ch v0 54) 1024 v3 0 fun σ3 =>
      nm (v3 + 1) fun x4 =>
      Mo_build_B67 K57 n v0 x4 σ3
def Mo_build_B57 : Nat → Nat → Int32 → St → Option (Int32 × St)
  | 0, _, _, _ => none
  | n + 1, v0, v2, σ =>
    if v2 = 0 then
      nm (((σ v0 22) - (rem (σ v0 22) 16)) + 16) fun x1 =>
      if x1 ≤ 1024 then
        Mo_build_B132 FU v0 x1 0 σ
      else
        cl (Mo_faults v0 4 (-1) σ) fun x3 σ2 =>
        some (σ2 v0 3, σ2)
    else
      cv (Mo_layAll v0 σ) fun σ4 =>
      Mo_build_B67 (Mo_build_B57 n) FU v0 0 σ4
def Mo_build_B36 : Nat → Nat → Int32 → St → Option (Int32 × St)
  | 0, _, _, _ => none
  | n + 1, v0, v2, σ =>
    if 120 ≤ v2 then
      Mo_build_B57 FU v0 1 σ
    else
      sa σ (ch v0 21) 120 v2 0 fun σ1 =>
      nm (v2 + 1) fun x2 =>
      Mo_build_B36 n v0 x2 σ1
def Mo_build (v0 : Nat) (σ : St) : Option (Int32 × St) :=
  nm (s2 σ v0 0 0) fun σ1 =>
  cl (Mo_firstWrong v0 σ1) fun x3 σ2 =>
  if x3 ≤ 0 then
    Mo_build_B36 FU v0 0 σ2
  else
    cl (Mo_faults v0 (x3 / 1000) (rem x3 1000) σ2) fun x5 σ4 =>
    some (σ4 v0 3, σ4)
def Mo_size (v0 : Nat) (σ : St) : Option (Int32 × St) :=
  nm (s2 σ v0 0 0) fun σ1 =>
  some (σ1 v0 6, σ1)
def Mo_code (v0 : Nat) (v1 : Int32) (σ : St) : Option (Int32 × St) :=
  nm (s2 σ v0 0 0) fun σ1 =>
  if v1 < 0 then
    some ((-1), σ1)
  else
    if (σ1 v0 6) ≤ v1 then
      some ((-1), σ1)
    else
      ld σ1 (ch v0 5) 1024 v1 fun x2 =>
      some (x2, σ1)
def Mo_decoded_B50 (v0 : Nat) (v1 : Int32) (v2 : Int32) (v3 : Int32) (t0 : Nat) (t1 : Int32) (σ : St) : Option (Int32 × St) :=
  cl (Mo_throwing t0 t1 0 σ) fun x2 σ1 =>
  if x2 = 0 then
    if v2 = 0 then
      some (v3, σ1)
    else
    if v2 = 1 then
      some (σ1 v0 46, σ1)
    else
    if v2 = 2 then
      some (σ1 v0 47, σ1)
    else
    if v2 = 3 then
      some (σ1 v0 48, σ1)
    else
    if v2 = 4 then
      some (σ1 v0 49, σ1)
    else
    if v2 = 5 then
      some (σ1 v0 50, σ1)
    else
    if v2 = 6 then
      some (σ1 v0 51, σ1)
    else
    ld σ1 (ch v0 7) 1024 v1 fun x3 =>
    some (x3, σ1)
  else
    some (0, σ1)
def Mo_decoded_B29 (v0 : Nat) (v1 : Int32) (v2 : Int32) (t0 : Int32) (σ : St) : Option (Int32 × St) :=
  if t0 = 0 then
    Mo_decoded_B50 v0 v1 v2 t0 v0 1 σ
  else
    if v2 < 0 then
      Mo_decoded_B50 v0 v1 v2 t0 v0 1 σ
    else
      if v2 ≤ 7 then
        Mo_decoded_B50 v0 v1 v2 t0 v0 0 σ
      else
        Mo_decoded_B50 v0 v1 v2 t0 v0 1 σ
def Mo_decoded (v0 : Nat) (v1 : Int32) (v2 : Int32) (σ : St) : Option (Int32 × St) :=
  if v1 < 0 then
    Mo_decoded_B29 v0 v1 v2 0 σ
  else
    if (σ v0 6) ≤ v1 then
      Mo_decoded_B29 v0 v1 v2 0 σ
    else
      cl (Mo_decode v0 (ch v0 5) (σ v0 6) v1 σ) fun x2 σ1 =>
      Mo_decoded_B29 v0 v1 v2 x2 σ1
def Mo_place (v0 : Nat) (v1 : Int32) (v2 : Int32) (σ : St) : Option (Int32 × St) :=
  nm (s2 σ v0 0 0) fun σ1 =>
  if ¬ (σ1 v0 10) = 0 then
    if ¬ v1 = 2 then
      if ¬ v1 = 0 then
        if ¬ v1 = 1 then
          some ((-1), σ1)
        else
          if v2 < 0 then
            some ((-1), σ1)
          else
            if 40 ≤ v2 then
              some ((-1), σ1)
            else
              ld σ1 (ch v0 20) 80 (40 + v2) fun x2 =>
              if x2 < 0 then
                some ((-1), σ1)
              else
                ld σ1 (ch v0 19) 80 (40 + v2) fun x3 =>
                some (x3, σ1)
      else
        if v2 < 0 then
          some ((-1), σ1)
        else
          if (σ1 v0 9) ≤ v2 then
            some ((-1), σ1)
          else
            ld σ1 (ch v0 18) 240 (120 + v2) fun x4 =>
            some (x4, σ1)
    else
      some (σ1 v0 9, σ1)
  else
    some ((-1), σ1)
def Mo_set_B70 : Nat → Nat → Int32 → Int32 → Int32 → St → Option (Int32 × St)
  | 0, _, _, _, _, _ => none
  | n + 1, v0, v2, v3, v4, σ =>
    if 4 ≤ v4 then
      some (1, σ)
    else
      sa σ (ch v0 27) 1024 (v2 + v4) ((shr v3 (8 * v4)) &&& 255) fun σ1 =>
      nm (v4 + 1) fun x2 =>
      Mo_set_B70 n v0 v2 v3 x2 σ1
def Mo_set_B164 : Nat → Nat → Int32 → St → Option (Int32 × St)
  | 0, _, _, _ => none
  | n + 1, v0, v4, σ =>
    if 1024 ≤ v4 then
      nm (s2 σ v0 29 0) fun σ1 =>
      some (1, σ1)
    else
      sa σ (ch v0 27) 1024 v4 0 fun σ2 =>
      nm (v4 + 1) fun x3 =>
      Mo_set_B164 n v0 x3 σ2
def Mo_set_B140 : Nat → Nat → Int32 → St → Option (Int32 × St)
  | 0, _, _, _ => none
  | n + 1, v0, v4, σ =>
    if 8 ≤ v4 then
      Mo_set_B164 FU v0 0 σ
    else
      sa σ (ch v0 26) 8 v4 0 fun σ1 =>
      nm (v4 + 1) fun x2 =>
      Mo_set_B140 n v0 x2 σ1
def Mo_set (v0 : Nat) (v1 : Int32) (v2 : Int32) (v3 : Int32) (σ : St) : Option (Int32 × St) :=
  nm (s2 σ v0 0 0) fun σ1 =>
  if v1 = 0 then
    cl (Mo_isRegister v2 σ1) fun x3 σ2 =>
    if ¬ x3 = 0 then
      sa σ2 (ch v0 26) 8 v2 v3 fun σ4 =>
      some (1, σ4)
    else
      some (0, σ2)
  else
  if v1 = 1 then
    if v2 < 0 then
      some (0, σ1)
    else
      if v2 ≤ 1020 then
        Mo_set_B70 FU v0 v2 v3 0 σ1
      else
        some (0, σ1)
  else
  if v1 = 2 then
    if ¬ (σ1 v0 29) = 50 then
      sa σ1 (ch v0 28) 50 (σ1 v0 29) v3 fun σ5 =>
      nm (s2 σ5 v0 29 ((σ5 v0 29) + 1)) fun σ6 =>
      some (1, σ6)
    else
      some (0, σ1)
  else
  if v1 = 3 then
    Mo_set_B140 FU v0 0 σ1
  else
  some (0, σ1)
def Mo_reg (v0 : Nat) (v1 : Int32) (σ : St) : Option (Int32 × St) :=
  ld σ (ch v0 31) 16 ((8 * (σ v0 42)) + v1) fun x1 =>
  some (x1, σ)
def Mo_setReg (v0 : Nat) (v1 : Int32) (v2 : Int32) (σ : St) : Option (St) :=
  sa σ (ch v0 31) 16 ((8 * (σ v0 42)) + v1) v2 fun σ1 =>
  if ¬ (σ1 v0 42) = 1 then
    some σ1
  else
    if ¬ v1 = 1 then
      some σ1
    else
      nm (s2 σ1 v0 40 0) fun σ2 =>
      some σ2
def Mo_isThere (v0 : Int32) (σ : St) : Option (Int32 × St) :=
  if v0 < 0 then
    some (0, σ)
  else
    if 1020 < v0 then
      some (0, σ)
    else
      some (1, σ)
def Mo_load_B4 : Nat → Nat → Int32 → Int32 → Int32 → St → Option (Int32 × St)
  | 0, _, _, _, _, _ => none
  | n + 1, v0, v1, v2, v3, σ =>
    if v3 < 0 then
      some (v2, σ)
    else
      ld σ (ch v0 33) 2048 (((1024 * (σ v0 42)) + v1) + v3) fun x1 =>
      nm ((shl v2 8) ||| x1) fun x2 =>
      nm (v3 + (-1)) fun x3 =>
      Mo_load_B4 n v0 v1 x2 x3 σ
def Mo_load (v0 : Nat) (v1 : Int32) (σ : St) : Option (Int32 × St) :=
  Mo_load_B4 FU v0 v1 0 3 σ
def Mo_store_B2 : Nat → Nat → Int32 → Int32 → Int32 → St → Option (St)
  | 0, _, _, _, _, _ => none
  | n + 1, v0, v1, v2, v3, σ =>
    if 4 ≤ v3 then
      some σ
    else
      sa σ (ch v0 33) 2048 (((1024 * (σ v0 42)) + v1) + v3) ((shr v2 (8 * v3)) &&& 255) fun σ1 =>
      nm (v3 + 1) fun x2 =>
      Mo_store_B2 n v0 v1 v2 x2 σ1
def Mo_store (v0 : Nat) (v1 : Int32) (v2 : Int32) (σ : St) : Option (St) :=
  Mo_store_B2 FU v0 v1 v2 0 σ
def Mo_place1_B28 (v0 : Nat) (v1 : Int32) (v2 : Int32) (v4 : Int32) (t0 : Int32) (σ : St) : Option (Int32 × St) :=
  if 8 ≤ v4 then
    some ((t0 + 0) + v2, σ)
  else
    cl (Mo_reg v0 v4 σ) fun x2 σ1 =>
    some ((t0 + (shl x2 (shr v1 8))) + v2, σ1)
def Mo_place1 (v0 : Nat) (v1 : Int32) (v2 : Int32) (σ : St) : Option (Int32 × St) :=
  nm (v1 &&& 15) fun x1 =>
  nm ((shr v1 4) &&& 15) fun x2 =>
  if 8 ≤ x1 then
    Mo_place1_B28 v0 v1 v2 x2 0 σ
  else
    cl (Mo_reg v0 x1 σ) fun x4 σ3 =>
    Mo_place1_B28 v0 v1 v2 x2 x4 σ3
def Mo_begin_B78 : Nat → Nat → Int32 → Int32 → St → Option (St)
  | 0, _, _, _, _ => none
  | n + 1, v0, v1, v2, σ =>
    if 4 ≤ v2 then
      sa σ (ch v0 35) 2 v1 0 fun σ1 =>
      sa σ1 (ch v0 37) 2 v1 0 fun σ2 =>
      sa σ2 (ch v0 38) 2 v1 0 fun σ3 =>
      nm (s2 σ3 v0 41 0) fun σ4 =>
      if ¬ v1 = 1 then
        nm (s2 σ4 v0 39 0) fun σ5 =>
        some σ5
      else
        nm (s2 σ4 v0 40 0) fun σ6 =>
        some σ6
    else
      sa σ (ch v0 32) 8 ((4 * v1) + v2) 0 fun σ7 =>
      nm (v2 + 1) fun x8 =>
      Mo_begin_B78 n v0 v1 x8 σ7
def Mo_begin_B45 : Nat → Nat → Int32 → Int32 → St → Option (St)
  | 0, _, _, _, _ => none
  | n + 1, v0, v1, v2, σ =>
    if 1024 ≤ v2 then
      Mo_begin_B78 FU v0 v1 0 σ
    else
      ld σ (ch v0 27) 1024 v2 fun x1 =>
      sa σ (ch v0 33) 2048 ((1024 * v1) + v2) x1 fun σ2 =>
      nm (v2 + 1) fun x3 =>
      Mo_begin_B45 n v0 v1 x3 σ2
def Mo_begin_B14 : Nat → Nat → Int32 → Int32 → St → Option (St)
  | 0, _, _, _, _ => none
  | n + 1, v0, v1, v2, σ =>
    if 8 ≤ v2 then
      Mo_begin_B45 FU v0 v1 0 σ
    else
      ld σ (ch v0 26) 8 v2 fun x1 =>
      sa σ (ch v0 31) 16 ((8 * v1) + v2) x1 fun σ2 =>
      nm (v2 + 1) fun x3 =>
      Mo_begin_B14 n v0 v1 x3 σ2
def Mo_begin (v0 : Nat) (v1 : Int32) (σ : St) : Option (St) :=
  nm (s2 σ v0 42 v1) fun σ1 =>
  sa σ1 (ch v0 30) 2 v1 1 fun σ2 =>
  Mo_begin_B14 FU v0 v1 0 σ2
def Mo_result_B21 (v0 : Nat) (v1 : Int32) (t0 : Nat) (t1 : Int32) (t2 : Int32) (σ : St) : Option (St) :=
  sr σ t0 t1 t2 fun σ1 =>
  if 0 ≤ v1 then
    sa σ1 (ch v0 32) 8 ((4 * (σ1 v0 42)) + 2) 0 fun σ2 =>
    some σ2
  else
    sa σ1 (ch v0 32) 8 ((4 * (σ1 v0 42)) + 2) 1 fun σ3 =>
    some σ3
def Mo_result (v0 : Nat) (v1 : Int32) (σ : St) : Option (St) :=
  if ¬ v1 = 0 then
    Mo_result_B21 v0 v1 (ch v0 32) ((4 * (σ v0 42)) + 1) 0 σ
  else
    Mo_result_B21 v0 v1 (ch v0 32) ((4 * (σ v0 42)) + 1) 1 σ
def Mo_setFlags_B21 (v0 : Nat) (v2 : Int32) (t0 : Nat) (t1 : Int32) (t2 : Int32) (σ : St) : Option (St) :=
  sr σ t0 t1 t2 fun σ1 =>
  if v2 = 0 then
    sa σ1 (ch v0 32) 8 ((4 * (σ1 v0 42)) + 3) 0 fun σ2 =>
    some σ2
  else
    sa σ1 (ch v0 32) 8 ((4 * (σ1 v0 42)) + 3) 1 fun σ3 =>
    some σ3
def Mo_setFlags (v0 : Nat) (v1 : Int32) (v2 : Int32) (σ : St) : Option (St) :=
  if v1 = 0 then
    Mo_setFlags_B21 v0 v2 (ch v0 32) ((4 * (σ v0 42)) + 0) 0 σ
  else
    Mo_setFlags_B21 v0 v2 (ch v0 32) ((4 * (σ v0 42)) + 0) 1 σ
def Mo_added_B62 (v0 : Nat) (v8 : Int32) (t0 : Nat) (t1 : Int32) (t2 : Int32) (σ : St) : Option (Int32 × St) :=
  cv (Mo_setFlags t0 t1 t2 σ) fun σ1 =>
  cv (Mo_result v0 v8 σ1) fun σ2 =>
  some (v8, σ2)
def Mo_added (v0 : Nat) (v1 : Int32) (v2 : Int32) (v3 : Int32) (σ : St) : Option (Int32 × St) :=
  nm ((((Int32.toInt64 v1) &&& 4294967295) + ((Int32.toInt64 v2) &&& 4294967295)) + (Int32.toInt64 v3)) fun x1 =>
  nm (((Int32.toInt64 v1) + (Int32.toInt64 v2)) + (Int32.toInt64 v3)) fun x2 =>
  nm (Int64.toInt32 x2) fun x3 =>
  if (lg_cmp x1 4294967295) ≤ 0 then
    if (lg_cmp x2 (Int32.toInt64 x3)) = 0 then
      Mo_added_B62 v0 x3 v0 0 0 σ
    else
      Mo_added_B62 v0 x3 v0 0 1 σ
  else
    if (lg_cmp x2 (Int32.toInt64 x3)) = 0 then
      Mo_added_B62 v0 x3 v0 1 0 σ
    else
      Mo_added_B62 v0 x3 v0 1 1 σ
def Mo_taken_B54 (v0 : Nat) (v6 : Int32) (t0 : Nat) (t1 : Int32) (t2 : Int32) (σ : St) : Option (Int32 × St) :=
  cv (Mo_setFlags t0 t1 t2 σ) fun σ1 =>
  cv (Mo_result v0 v6 σ1) fun σ2 =>
  some (v6, σ2)
def Mo_taken (v0 : Nat) (v1 : Int32) (v2 : Int32) (v3 : Int32) (σ : St) : Option (Int32 × St) :=
  nm (((Int32.toInt64 v1) - (Int32.toInt64 v2)) - (Int32.toInt64 v3)) fun x1 =>
  nm (Int64.toInt32 x1) fun x2 =>
  if 0 ≤ (lg_cmp ((Int32.toInt64 v1) &&& 4294967295) (((Int32.toInt64 v2) &&& 4294967295) + (Int32.toInt64 v3))) then
    if (lg_cmp x1 (Int32.toInt64 x2)) = 0 then
      Mo_taken_B54 v0 x2 v0 0 0 σ
    else
      Mo_taken_B54 v0 x2 v0 0 1 σ
  else
    if (lg_cmp x1 (Int32.toInt64 x2)) = 0 then
      Mo_taken_B54 v0 x2 v0 1 0 σ
    else
      Mo_taken_B54 v0 x2 v0 1 1 σ
def Mo_plainResult (v0 : Nat) (v1 : Int32) (σ : St) : Option (Int32 × St) :=
  cv (Mo_setFlags v0 0 0 σ) fun σ1 =>
  cv (Mo_result v0 v1 σ1) fun σ2 =>
  some (v1, σ2)
def Mo_shifted_B140 (v0 : Nat) (v5 : Int32) (v7 : Int32) (t0 : Nat) (t1 : Int32) (σ : St) : Option (Int32 × St) :=
  cv (Mo_setFlags t0 t1 v7 σ) fun σ1 =>
  cv (Mo_result v0 v5 σ1) fun σ2 =>
  some (v5, σ2)
def Mo_shifted_B71 (v0 : Nat) (v1 : Int32) (v2 : Int32) (v5 : Int32) (t0 : Int32) (σ : St) : Option (Int32 × St) :=
  if ¬ v1 = 14 then
    if ¬ v1 = 15 then
      if ¬ t0 = 1 then
        Mo_shifted_B140 v0 v5 0 v0 0 σ
      else
        Mo_shifted_B140 v0 v5 0 v0 1 σ
    else
      if 0 ≤ v2 then
        if ¬ t0 = 1 then
          Mo_shifted_B140 v0 v5 0 v0 0 σ
        else
          Mo_shifted_B140 v0 v5 0 v0 1 σ
      else
        if ¬ t0 = 1 then
          Mo_shifted_B140 v0 v5 1 v0 0 σ
        else
          Mo_shifted_B140 v0 v5 1 v0 1 σ
  else
    if 0 ≤ v5 then
      if ¬ t0 = 1 then
        if ¬ t0 = 1 then
          Mo_shifted_B140 v0 v5 0 v0 0 σ
        else
          Mo_shifted_B140 v0 v5 0 v0 1 σ
      else
        if ¬ t0 = 1 then
          Mo_shifted_B140 v0 v5 1 v0 0 σ
        else
          Mo_shifted_B140 v0 v5 1 v0 1 σ
    else
      if ¬ t0 = 1 then
        if ¬ t0 = 1 then
          Mo_shifted_B140 v0 v5 1 v0 0 σ
        else
          Mo_shifted_B140 v0 v5 1 v0 1 σ
      else
        if ¬ t0 = 1 then
          Mo_shifted_B140 v0 v5 0 v0 0 σ
        else
          Mo_shifted_B140 v0 v5 0 v0 1 σ
def Mo_shifted_B43 (v0 : Nat) (v1 : Int32) (v2 : Int32) (v4 : Int32) (t0 : Int32) (σ : St) : Option (Int32 × St) :=
  if ¬ v1 = 14 then
    Mo_shifted_B71 v0 v1 v2 t0 ((shr v2 (v4 - 1)) &&& 1) σ
  else
    Mo_shifted_B71 v0 v1 v2 t0 ((ushr v2 (32 - v4)) &&& 1) σ
def Mo_shifted (v0 : Nat) (v1 : Int32) (v2 : Int32) (v3 : Int32) (σ : St) : Option (Int32 × St) :=
  nm (v3 &&& 31) fun x1 =>
  if ¬ x1 = 0 then
    if ¬ v1 = 14 then
      if ¬ v1 = 15 then
        Mo_shifted_B43 v0 v1 v2 x1 (shr v2 x1) σ
      else
        Mo_shifted_B43 v0 v1 v2 x1 (ushr v2 x1) σ
    else
      Mo_shifted_B43 v0 v1 v2 x1 (shl v2 x1) σ
  else
    some (v2, σ)
def Mo_worked_B134 (v0 : Nat) (v2 : Int32) (v3 : Int32) (σ : St) : Option (Int32 × St) :=
  cl (Mo_plainResult v0 (v2 &&& v3) σ) fun x2 σ1 =>
  some (x2, σ1)
def Mo_worked_B142 (v0 : Nat) (v2 : Int32) (v3 : Int32) (σ : St) : Option (Int32 × St) :=
  cl (Mo_taken v0 v2 v3 0 σ) fun x2 σ1 =>
  some (x2, σ1)
def Mo_worked_B201 (v0 : Nat) (v7 : Int32) (t0 : Nat) (t1 : Int32) (t2 : Int32) (σ : St) : Option (Int32 × St) :=
  cv (Mo_setFlags t0 t1 t2 σ) fun σ1 =>
  cv (Mo_result v0 v7 σ1) fun σ2 =>
  some (v7, σ2)
def Mo_worked_B225 (v0 : Nat) (v1 : Int32) (v2 : Int32) (v3 : Int32) (σ : St) : Option (Int32 × St) :=
  cl (Mo_shifted v0 v1 v2 v3 σ) fun x2 σ1 =>
  some (x2, σ1)
def Mo_worked_B256 (v0 : Nat) (v4 : Int32) (t0 : Int32) (σ : St) : Option (Int32 × St) :=
  sa σ (ch v0 32) 8 ((4 * (σ v0 42)) + 0) v4 fun σ1 =>
  some (t0, σ1)
def Mo_worked_B233 (v0 : Nat) (v1 : Int32) (v2 : Int32) (v4 : Int32) (σ : St) : Option (Int32 × St) :=
  if ¬ v1 = 17 then
    cl (Mo_taken v0 v2 1 0 σ) fun x2 σ1 =>
    Mo_worked_B256 v0 v4 x2 σ1
  else
    cl (Mo_added v0 v2 1 0 σ) fun x4 σ3 =>
    Mo_worked_B256 v0 v4 x4 σ3
def Mo_worked (v0 : Nat) (v1 : Int32) (v2 : Int32) (v3 : Int32) (σ : St) : Option (Int32 × St) :=
  ld σ (ch v0 32) 8 ((4 * (σ v0 42)) + 0) fun x1 =>
  if v1 = 0 then
    cl (Mo_added v0 v2 v3 0 σ) fun x3 σ2 =>
    some (x3, σ2)
  else
  if v1 = 1 then
    cl (Mo_plainResult v0 (v2 ||| v3) σ) fun x5 σ4 =>
    some (x5, σ4)
  else
  if v1 = 2 then
    cl (Mo_added v0 v2 v3 x1 σ) fun x7 σ6 =>
    some (x7, σ6)
  else
  if v1 = 3 then
    cl (Mo_taken v0 v2 v3 x1 σ) fun x9 σ8 =>
    some (x9, σ8)
  else
  if v1 = 4 then
    Mo_worked_B134 v0 v2 v3 σ
  else
  if v1 = 5 then
    Mo_worked_B142 v0 v2 v3 σ
  else
  if v1 = 6 then
    cl (Mo_plainResult v0 (v2 ^^^ v3) σ) fun x11 σ10 =>
    some (x11, σ10)
  else
  if v1 = 7 then
    Mo_worked_B142 v0 v2 v3 σ
  else
  if v1 = 8 then
    some (v3, σ)
  else
  if v1 = 9 then
    Mo_worked_B134 v0 v2 v3 σ
  else
  if v1 = 10 then
    Mo_worked_B233 v0 v1 v2 x1 σ
  else
  if v1 = 11 then
    nm ((Int32.toInt64 v2) * (Int32.toInt64 v3)) fun x12 =>
    nm (Int64.toInt32 x12) fun x13 =>
    if (lg_cmp x12 (Int32.toInt64 x13)) = 0 then
      if (lg_cmp x12 (Int32.toInt64 x13)) = 0 then
        Mo_worked_B201 v0 x13 v0 0 0 σ
      else
        Mo_worked_B201 v0 x13 v0 0 1 σ
    else
      if (lg_cmp x12 (Int32.toInt64 x13)) = 0 then
        Mo_worked_B201 v0 x13 v0 1 0 σ
      else
        Mo_worked_B201 v0 x13 v0 1 1 σ
  else
  if v1 = 12 then
    some (v2 ^^^ (-1), σ)
  else
  if v1 = 13 then
    cl (Mo_taken v0 0 v2 0 σ) fun x15 σ14 =>
    some (x15, σ14)
  else
  if v1 = 14 then
    Mo_worked_B225 v0 v1 v2 v3 σ
  else
  if v1 = 15 then
    Mo_worked_B225 v0 v1 v2 v3 σ
  else
  if v1 = 16 then
    Mo_worked_B225 v0 v1 v2 v3 σ
  else
  Mo_worked_B233 v0 v1 v2 x1 σ
def Mo_holds_B227 (v1 : Int32) (v4 : Int32) (σ : St) : Option (Int32 × St) :=
  if ¬ (v1 &&& 1) = 1 then
    if v4 = 0 then
      some (0, σ)
    else
      some (1, σ)
  else
    if v4 = 1 then
      some (0, σ)
    else
      some (1, σ)
def Mo_holds_B204 (v0 : Nat) (v1 : Int32) (v2 : Int32) (v3 : Int32) (σ : St) : Option (Int32 × St) :=
  ld σ (ch v0 32) 8 (v2 + 1) fun x1 =>
  if x1 = 1 then
    Mo_holds_B227 v1 1 σ
  else
    if v3 = 0 then
      Mo_holds_B227 v1 0 σ
    else
      Mo_holds_B227 v1 1 σ
def Mo_holds_B31 (v0 : Nat) (v1 : Int32) (v2 : Int32) (t0 : Int32) (σ : St) : Option (Int32 × St) :=
  nm (shr v1 1) fun x1 =>
  if x1 = 0 then
    ld σ (ch v0 32) 8 (v2 + 3) fun x2 =>
    if ¬ x2 = 1 then
      Mo_holds_B227 v1 0 σ
    else
      Mo_holds_B227 v1 1 σ
  else
  if x1 = 1 then
    ld σ (ch v0 32) 8 (v2 + 0) fun x3 =>
    if ¬ x3 = 1 then
      Mo_holds_B227 v1 0 σ
    else
      Mo_holds_B227 v1 1 σ
  else
  if x1 = 2 then
    ld σ (ch v0 32) 8 (v2 + 1) fun x4 =>
    if ¬ x4 = 1 then
      Mo_holds_B227 v1 0 σ
    else
      Mo_holds_B227 v1 1 σ
  else
  if x1 = 3 then
    ld σ (ch v0 32) 8 (v2 + 0) fun x5 =>
    if x5 = 1 then
      Mo_holds_B227 v1 1 σ
    else
      ld σ (ch v0 32) 8 (v2 + 1) fun x6 =>
      if ¬ x6 = 1 then
        Mo_holds_B227 v1 0 σ
      else
        Mo_holds_B227 v1 1 σ
  else
  if x1 = 4 then
    ld σ (ch v0 32) 8 (v2 + 2) fun x7 =>
    if ¬ x7 = 1 then
      Mo_holds_B227 v1 0 σ
    else
      Mo_holds_B227 v1 1 σ
  else
  if x1 = 5 then
    Mo_holds_B204 v0 v1 v2 t0 σ
  else
  if x1 = 6 then
    Mo_holds_B227 v1 t0 σ
  else
  Mo_holds_B204 v0 v1 v2 t0 σ
def Mo_holds (v0 : Nat) (v1 : Int32) (σ : St) : Option (Int32 × St) :=
  nm (4 * (σ v0 42)) fun x1 =>
  ld σ (ch v0 32) 8 (x1 + 2) fun x2 =>
  ld σ (ch v0 32) 8 (x1 + 3) fun x3 =>
  if x2 = x3 then
    Mo_holds_B31 v0 v1 x1 0 σ
  else
    Mo_holds_B31 v0 v1 x1 1 σ
def Mo_isOnMemory (v0 : Nat) (σ : St) : Option (Int32 × St) :=
  if (σ v0 57) = 3 then
    some (1, σ)
  else
    if (σ v0 57) = 4 then
      some (1, σ)
    else
      if (σ v0 57) = 6 then
        some (1, σ)
      else
        if ¬ (σ v0 57) = 7 then
          some (0, σ)
        else
          some (1, σ)
def Mo_wants_B27 (v0 : Nat) (σ : St) : Option (Int32 × St) :=
  cl (Mo_reg v0 4 σ) fun x2 σ1 =>
  cl (Mo_isThere (x2 - 4) σ1) fun x4 σ3 =>
  if ¬ x4 = 0 then
    some (0, σ3)
  else
    some (1, σ3)
def Mo_wants_B64 (v0 : Nat) (σ : St) : Option (Int32 × St) :=
  cl (Mo_reg v0 4 σ) fun x2 σ1 =>
  cl (Mo_isThere x2 σ1) fun x4 σ3 =>
  if ¬ x4 = 0 then
    some (0, σ3)
  else
    some (1, σ3)
def Mo_wants (v0 : Nat) (σ : St) : Option (Int32 × St) :=
  if (σ v0 56) = 19 then
    Mo_wants_B27 v0 σ
  else
    if (σ v0 56) = 26 then
      Mo_wants_B27 v0 σ
    else
      if ¬ (σ v0 56) = 28 then
        if (σ v0 56) = 20 then
          Mo_wants_B64 v0 σ
        else
          if ¬ (σ v0 56) = 23 then
            cl (Mo_isOnMemory v0 σ) fun x2 σ1 =>
            if x2 = 0 then
              some (0, σ1)
            else
              if (σ1 v0 56) = 10 then
                some (0, σ1)
              else
                cl (Mo_place1 v0 (σ1 v0 59) (σ1 v0 60) σ1) fun x4 σ3 =>
                cl (Mo_isThere x4 σ3) fun x6 σ5 =>
                if ¬ x6 = 0 then
                  some (0, σ5)
                else
                  some (1, σ5)
          else
            Mo_wants_B64 v0 σ
      else
        Mo_wants_B27 v0 σ
def Mo_push (v0 : Nat) (v1 : Int32) (σ : St) : Option (St) :=
  cl (Mo_reg v0 4 σ) fun x2 σ1 =>
  nm (x2 - 4) fun x3 =>
  cv (Mo_store v0 x3 v1 σ1) fun σ4 =>
  cv (Mo_setReg v0 4 x3 σ4) fun σ5 =>
  some σ5
def Mo_pop (v0 : Nat) (σ : St) : Option (Int32 × St) :=
  cl (Mo_reg v0 4 σ) fun x2 σ1 =>
  cl (Mo_load v0 x2 σ1) fun x4 σ3 =>
  cl (Mo_reg v0 4 σ3) fun x6 σ5 =>
  cv (Mo_setReg v0 4 (x6 + 4) σ5) fun σ7 =>
  some (x4, σ7)
def Mo_does_B237 (v0 : Nat) (v1 : Int32) (v2 : Int32) (v3 : Int32) (t0 : Int32) (σ : St) : Option (St) :=
  cl (Mo_worked v0 (σ v0 56) v3 t0 σ) fun x2 σ1 =>
  if (σ1 v0 56) = 7 then
    some σ1
  else
    if ¬ (σ1 v0 56) = 9 then
      if v1 = 0 then
        cv (Mo_setReg v0 (σ1 v0 58) x2 σ1) fun σ3 =>
        some σ3
      else
        cv (Mo_store v0 v2 x2 σ1) fun σ4 =>
        some σ4
    else
      some σ1
def Mo_does_B178 (v0 : Nat) (v1 : Int32) (v2 : Int32) (t0 : Int32) (σ : St) : Option (St) :=
  if ¬ (σ v0 57) = 2 then
    if ¬ (σ v0 57) = 3 then
      if ¬ (σ v0 57) = 4 then
        Mo_does_B237 v0 v1 v2 t0 (σ v0 61) σ
      else
        cl (Mo_reg v0 (σ v0 58) σ) fun x2 σ1 =>
        Mo_does_B237 v0 v1 v2 t0 x2 σ1
    else
      cl (Mo_load v0 v2 σ) fun x4 σ3 =>
      Mo_does_B237 v0 v1 v2 t0 x4 σ3
  else
    cl (Mo_reg v0 (σ v0 59) σ) fun x6 σ5 =>
    Mo_does_B237 v0 v1 v2 t0 x6 σ5
def Mo_does_B157 (v0 : Nat) (v1 : Int32) (t0 : Int32) (σ : St) : Option (St) :=
  if v1 = 0 then
    cl (Mo_reg v0 (σ v0 58) σ) fun x2 σ1 =>
    Mo_does_B178 v0 v1 t0 x2 σ1
  else
    cl (Mo_load v0 t0 σ) fun x4 σ3 =>
    Mo_does_B178 v0 v1 t0 x4 σ3
def Mo_does_B133 (v0 : Nat) (t0 : Int32) (σ : St) : Option (St) :=
  cl (Mo_isOnMemory v0 σ) fun x2 σ1 =>
  if x2 = 0 then
    Mo_does_B157 v0 t0 0 σ1
  else
    cl (Mo_place1 v0 (σ1 v0 59) (σ1 v0 60) σ1) fun x4 σ3 =>
    Mo_does_B157 v0 t0 x4 σ3
def Mo_does (v0 : Nat) (σ : St) : Option (St) :=
  if ¬ (σ v0 56) = 19 then
    if ¬ (σ v0 56) = 20 then
      if (σ v0 56) ≤ 20 then
        if ¬ (σ v0 56) = 10 then
          if (σ v0 57) = 4 then
            Mo_does_B133 v0 1 σ
          else
            if (σ v0 57) = 6 then
              Mo_does_B133 v0 1 σ
            else
              if ¬ (σ v0 57) = 7 then
                Mo_does_B133 v0 0 σ
              else
                Mo_does_B133 v0 1 σ
        else
          cl (Mo_place1 v0 (σ v0 59) (σ v0 60) σ) fun x2 σ1 =>
          cv (Mo_setReg v0 (σ v0 58) x2 σ1) fun σ3 =>
          some σ3
      else
        some σ
    else
      cl (Mo_pop v0 σ) fun x5 σ4 =>
      cv (Mo_setReg v0 (σ4 v0 58) x5 σ4) fun σ6 =>
      some σ6
  else
    if ¬ (σ v0 57) = 8 then
      cl (Mo_reg v0 (σ v0 58) σ) fun x8 σ7 =>
      cv (Mo_push v0 x8 σ7) fun σ9 =>
      some σ9
    else
      cv (Mo_push v0 (σ v0 61) σ) fun σ10 =>
      some σ10
def Mo_takes (v0 : Nat) (v1 : Int32) (v2 : Int32) (v3 : Int32) (v4 : Int32) (v5 : Int32) (v6 : Int32) (σ : St) : Option (St) :=
  nm (s2 σ v0 56 v1) fun σ1 =>
  nm (s2 σ1 v0 57 v2) fun σ2 =>
  nm (s2 σ2 v0 58 v3) fun σ3 =>
  nm (s2 σ3 v0 59 v4) fun σ4 =>
  nm (s2 σ4 v0 60 v5) fun σ5 =>
  nm (s2 σ5 v0 61 v6) fun σ6 =>
  some σ6
def Mo_serves_B81 (v0 : Nat) (t0 : Nat) (t1 : Int32) (t2 : Int32) (σ : St) : Option (St) :=
  cv (Mo_setReg t0 t1 t2 σ) fun σ1 =>
  if (σ1 v0 29) ≤ (σ1 v0 41) then
    nm (s2 σ1 v0 41 ((σ1 v0 41) + 0)) fun σ2 =>
    some σ2
  else
    nm (s2 σ1 v0 41 ((σ1 v0 41) + 1)) fun σ3 =>
    some σ3
def Mo_serves (v0 : Nat) (v1 : Int32) (σ : St) : Option (St) :=
  if ¬ v1 = 16 then
    if ¬ v1 = 32 then
      ld σ (ch v0 35) 2 (σ v0 42) fun x1 =>
      cv (Mo_setReg v0 0 x1 σ) fun σ2 =>
      some σ2
    else
      if (σ v0 29) ≤ (σ v0 41) then
        Mo_serves_B81 v0 v0 0 0 σ
      else
        ld σ (ch v0 28) 50 (σ v0 41) fun x3 =>
        Mo_serves_B81 v0 v0 0 x3 σ
  else
    ld σ (ch v0 35) 2 (σ v0 42) fun x4 =>
    cl (Mo_reg v0 3 σ) fun x6 σ5 =>
    sa σ5 (ch v0 34) 200 ((100 * (σ v0 42)) + x4) x6 fun σ7 =>
    nm (σ7 v0 42) fun x8 =>
    ld σ7 (ch v0 35) 2 x8 fun x9 =>
    sa σ7 (ch v0 35) 2 x8 (x9 + 1) fun σ10 =>
    some σ10
def Mo_step_B63 (v0 : Nat) (v1 : Int32) (σ : St) : Option (Int32 × St) :=
  cv (Mo_serves v0 v1 σ) fun σ1 =>
  cl (Mo_pop v0 σ1) fun x3 σ2 =>
  sa σ2 (ch v0 36) 2 0 (x3 &&& (-16)) fun σ4 =>
  ld σ4 (ch v0 37) 2 0 fun x5 =>
  sa σ4 (ch v0 37) 2 0 (x5 + 1) fun σ6 =>
  some ((-1), σ6)
def Mo_step_B349 (v0 : Nat) (v5 : Int32) (σ : St) : Option (Int32 × St) :=
  if 23 ≤ (σ v0 56) then
    sa σ (ch v0 36) 2 0 v5 fun σ1 =>
    some ((-1), σ1)
  else
    cv (Mo_does v0 σ) fun σ2 =>
    sa σ2 (ch v0 36) 2 0 v5 fun σ3 =>
    some ((-1), σ3)
def Mo_step_B334 (v0 : Nat) (v5 : Int32) (σ : St) : Option (Int32 × St) :=
  if ¬ (σ v0 56) = 23 then
    Mo_step_B349 v0 v5 σ
  else
    cl (Mo_pop v0 σ) fun x2 σ1 =>
    Mo_step_B349 v0 x2 σ1
def Mo_step_B310 (v0 : Nat) (v4 : Int32) (v5 : Int32) (σ : St) : Option (Int32 × St) :=
  if (σ v0 56) = 26 then
    cv (Mo_push v0 v4 σ) fun σ1 =>
    Mo_step_B334 v0 v5 σ1
  else
    if ¬ (σ v0 56) = 28 then
      Mo_step_B334 v0 v5 σ
    else
      cv (Mo_push v0 v4 σ) fun σ2 =>
      Mo_step_B334 v0 v5 σ2
def Mo_step_B282 (v0 : Nat) (v4 : Int32) (v5 : Int32) (σ : St) : Option (Int32 × St) :=
  if (σ v0 56) = 27 then
    cl (Mo_reg v0 (σ v0 58) σ) fun x2 σ1 =>
    Mo_step_B310 v0 v4 x2 σ1
  else
    if ¬ (σ v0 56) = 28 then
      Mo_step_B310 v0 v4 v5 σ
    else
      cl (Mo_reg v0 (σ v0 58) σ) fun x4 σ3 =>
      Mo_step_B310 v0 v4 x4 σ3
def Mo_step_B253 (v0 : Nat) (v4 : Int32) (v5 : Int32) (σ : St) : Option (Int32 × St) :=
  if ¬ (σ v0 56) = 25 then
    Mo_step_B282 v0 v4 v5 σ
  else
    cl (Mo_holds v0 (σ v0 58) σ) fun x2 σ1 =>
    if x2 = 0 then
      Mo_step_B282 v0 v4 v5 σ1
    else
      nm (v4 + (σ1 v0 61)) fun x3 =>
      Mo_step_B282 v0 v4 x3 σ1
def Mo_step_B202 (v0 : Nat) (v1 : Int32) (v3 : Int32) (t0 : Nat) (t1 : Int32) (t2 : Int32) (σ : St) : Option (Int32 × St) :=
  nm (s2 σ t0 39 (t1 + t2)) fun σ1 =>
  nm (v1 + v3) fun x2 =>
  if ¬ (σ1 v0 56) = 22 then
    if (σ1 v0 56) = 24 then
      nm (x2 + (σ1 v0 61)) fun x3 =>
      Mo_step_B253 v0 x2 x3 σ1
    else
      if ¬ (σ1 v0 56) = 26 then
        Mo_step_B253 v0 x2 x2 σ1
      else
        nm (x2 + (σ1 v0 61)) fun x4 =>
        Mo_step_B253 v0 x2 x4 σ1
  else
    some (1, σ1)
def Mo_step (v0 : Nat) (σ : St) : Option (Int32 × St) :=
  ld σ (ch v0 36) 2 0 fun x1 =>
  if ¬ x1 = 0 then
    cl (Mo_isService x1 σ) fun x3 σ2 =>
    if x3 = 0 then
      nm (x1 - 256) fun x4 =>
      if x1 < 256 then
        some (4, σ2)
      else
        if x4 < (σ2 v0 6) then
          cl (Mo_decode v0 (ch v0 5) (σ2 v0 6) x4 σ2) fun x6 σ5 =>
          if ¬ x6 = 0 then
            cv (Mo_takes v0 (σ5 v0 46) (σ5 v0 47) (σ5 v0 48) (σ5 v0 49) (σ5 v0 50) (σ5 v0 51) σ5) fun σ7 =>
            cl (Mo_wants v0 σ7) fun x9 σ8 =>
            if x9 = 0 then
              ld σ8 (ch v0 37) 2 0 fun x10 =>
              sa σ8 (ch v0 37) 2 0 (x10 + 1) fun σ11 =>
              ld σ11 (ch v0 7) 1024 x4 fun x12 =>
              if ¬ x12 = 0 then
                Mo_step_B202 v0 x1 x6 v0 (σ11 v0 39) 0 σ11
              else
                Mo_step_B202 v0 x1 x6 v0 (σ11 v0 39) 1 σ11
            else
              some (3, σ8)
          else
            some (5, σ5)
        else
          some (4, σ2)
    else
      cl (Mo_reg v0 4 σ2) fun x14 σ13 =>
      cl (Mo_isThere x14 σ13) fun x16 σ15 =>
      if ¬ x16 = 0 then
        if ¬ x1 = 16 then
          Mo_step_B63 v0 x1 σ15
        else
          ld σ15 (ch v0 35) 2 0 fun x17 =>
          if ¬ x17 = 100 then
            Mo_step_B63 v0 x1 σ15
          else
            some (6, σ15)
      else
        some (3, σ15)
  else
    ld σ (ch v0 37) 2 0 fun x18 =>
    sa σ (ch v0 37) 2 0 (x18 + 1) fun σ19 =>
    some (2, σ19)
def Mo_run_B54 : Nat → Nat → Int32 → Int32 → St → Option (Int32 × St)
  | 0, _, _, _, _ => none
  | n + 1, v0, v1, v2, σ =>
    if 0 ≤ v2 then
      sa σ (ch v0 38) 2 0 v2 fun σ1 =>
      some (v2, σ1)
    else
      ld σ (ch v0 37) 2 0 fun x2 =>
      if ¬ x2 = v1 then
        cl (Mo_step v0 σ) fun x4 σ3 =>
        Mo_run_B54 n v0 v1 x4 σ3
      else
        Mo_run_B54 n v0 v1 0 σ
def Mo_run_B30 (v0 : Nat) (v1 : Int32) (t0 : Nat) (t1 : Int32) (t2 : Int32) (σ : St) : Option (Int32 × St) :=
  cl (Mo_throwing t0 t1 t2 σ) fun x2 σ1 =>
  if x2 = 0 then
    cv (Mo_begin v0 0 σ1) fun σ3 =>
    sa σ3 (ch v0 36) 2 0 256 fun σ4 =>
    Mo_run_B54 FU v0 v1 (-1) σ4
  else
    some (0, σ1)
def Mo_run (v0 : Nat) (v1 : Int32) (σ : St) : Option (Int32 × St) :=
  if ¬ (σ v0 6) = 0 then
    if v1 < 1 then
      Mo_run_B30 v0 v1 v0 0 1 σ
    else
      if v1 ≤ 5000 then
        Mo_run_B30 v0 v1 v0 0 0 σ
      else
        Mo_run_B30 v0 v1 v0 0 1 σ
  else
    if v1 < 1 then
      Mo_run_B30 v0 v1 v0 1 1 σ
    else
      if v1 ≤ 5000 then
        Mo_run_B30 v0 v1 v0 1 0 σ
      else
        Mo_run_B30 v0 v1 v0 1 1 σ
def Mo_passed_B2 : Nat → Nat → Int32 → St → Option (Int32 × St)
  | 0, _, _, _ => none
  | n + 1, v0, v2, σ =>
    if (σ v0 9) ≤ v2 then
      some (v2, σ)
    else
      ld σ (ch v0 11) 240 (120 + v2) fun x1 =>
      if ¬ x1 = 0 then
        some (v2, σ)
      else
        nm (v2 + 1) fun x2 =>
        Mo_passed_B2 n v0 x2 σ
def Mo_passed (v0 : Nat) (v1 : Int32) (σ : St) : Option (Int32 × St) :=
  Mo_passed_B2 FU v0 v1 σ
def Mo_leads_B90 (K16 : Nat → Int32 → Int32 → St → Option (Int32 × St)) (v0 : Nat) (v1 : Int32) (v2 : Int32) (σ : St) : Option (Int32 × St) :=
  ld σ (ch v0 18) 240 (120 + v2) fun x1 =>
  if ¬ v1 = ((256 + x1) + 5) then
    nm (v2 + 1) fun x2 =>
    K16 v0 v1 x2 σ
  else
    cl (Mo_passed v0 (v2 + 1) σ) fun x4 σ3 =>
    some (x4, σ3)
def Mo_leads_B74 (K16 : Nat → Int32 → Int32 → St → Option (Int32 × St)) (v0 : Nat) (v1 : Int32) (v2 : Int32) (v3 : Int32) (σ : St) : Option (Int32 × St) :=
  if v3 = 3 then
    Mo_leads_B90 K16 v0 v1 v2 σ
  else
    if v3 = 4 then
      Mo_leads_B90 K16 v0 v1 v2 σ
    else
      if ¬ v3 = 6 then
        nm (v2 + 1) fun x1 =>
        K16 v0 v1 x1 σ
      else
        Mo_leads_B90 K16 v0 v1 v2 σ
def Mo_leads_B16 : Nat → Nat → Int32 → Int32 → St → Option (Int32 × St)
  | 0, _, _, _, _ => none
  | n + 1, v0, v1, v2, σ =>
    if (σ v0 9) ≤ v2 then
      some ((-100), σ)
    else
      ld σ (ch v0 11) 240 (120 + v2) fun x1 =>
      if ¬ x1 = 0 then
        Mo_leads_B74 (Mo_leads_B16 n) v0 v1 v2 x1 σ
      else
        ld σ (ch v0 15) 240 (120 + v2) fun x2 =>
        if ¬ x2 = 1 then
          Mo_leads_B74 (Mo_leads_B16 n) v0 v1 v2 x1 σ
        else
          ld σ (ch v0 18) 240 (120 + v2) fun x3 =>
          if ¬ v1 = (256 + x3) then
            Mo_leads_B74 (Mo_leads_B16 n) v0 v1 v2 x1 σ
          else
            cl (Mo_passed v0 v2 σ) fun x5 σ4 =>
            some (x5, σ4)
def Mo_leads (v0 : Nat) (v1 : Int32) (σ : St) : Option (Int32 × St) :=
  cl (Mo_isService v1 σ) fun x2 σ1 =>
  if x2 = 0 then
    Mo_leads_B16 FU v0 v1 0 σ1
  else
    some ((-1) - (v1 / 16), σ1)
def Mo_atService_B72 (v0 : Nat) (v1 : Int32) (v2 : Int32) (σ : St) : Option (Int32 × St) :=
  cv (Mo_serves v0 v1 σ) fun σ1 =>
  cl (Mo_pop v0 σ1) fun x3 σ2 =>
  nm (s2 σ2 v0 62 v2) fun σ4 =>
  ld σ4 (ch v0 37) 2 1 fun x5 =>
  sa σ4 (ch v0 37) 2 1 (x5 + 1) fun σ6 =>
  some ((-1), σ6)
def Mo_atService (v0 : Nat) (v1 : Int32) (σ : St) : Option (Int32 × St) :=
  if ¬ v1 = 0 then
    cl (Mo_reg v0 4 σ) fun x2 σ1 =>
    cl (Mo_isThere x2 σ1) fun x4 σ3 =>
    if ¬ x4 = 0 then
      cl (Mo_reg v0 4 σ3) fun x6 σ5 =>
      cl (Mo_load v0 x6 σ5) fun x8 σ7 =>
      cl (Mo_leads v0 x8 σ7) fun x10 σ9 =>
      if ¬ x10 = (-100) then
        if ¬ v1 = 16 then
          Mo_atService_B72 v0 v1 x10 σ9
        else
          ld σ9 (ch v0 35) 2 1 fun x11 =>
          if ¬ x11 = 100 then
            Mo_atService_B72 v0 v1 x10 σ9
          else
            some (6, σ9)
      else
        some (9, σ9)
    else
      some (3, σ3)
  else
    ld σ (ch v0 37) 2 1 fun x12 =>
    sa σ (ch v0 37) 2 1 (x12 + 1) fun σ13 =>
    some (2, σ13)
def Mo_forgetFlags_B2 : Nat → Nat → Int32 → St → Option (St)
  | 0, _, _, _ => none
  | n + 1, v0, v1, σ =>
    if 8 ≤ v1 then
      some σ
    else
      sa σ (ch v0 32) 8 v1 2 fun σ1 =>
      nm (v1 + 1) fun x2 =>
      Mo_forgetFlags_B2 n v0 x2 σ1
def Mo_forgetFlags (v0 : Nat) (σ : St) : Option (St) :=
  Mo_forgetFlags_B2 FU v0 4 σ
def Mo_isUnknown (v0 : Nat) (v1 : Int32) (σ : St) : Option (Int32 × St) :=
  if ¬ v1 = 1 then
    some (0, σ)
  else
    if (σ v0 40) = 0 then
      some (0, σ)
    else
      some (1, σ)
def Mo_namesUnknown_B66 (v1 : Int32) (v2 : Int32) (v3 : Int32) (v4 : Int32) (t0 : Int32) (σ : St) : Option (Int32 × St) :=
  nm (shr v1 1) fun x1 =>
  if x1 = 0 then
    zb v2 <|
    some (v2, σ)
  else
  if x1 = 1 then
    zb v3 <|
    some (v3, σ)
  else
  if x1 = 2 then
    zb v4 <|
    some (v4, σ)
  else
  if x1 = 3 then
    if ¬ v3 = 0 then
      some (1, σ)
    else
      if v4 = 0 then
        some (0, σ)
      else
        some (1, σ)
  else
  if x1 = 4 then
    zb t0 <|
    some (t0, σ)
  else
  if x1 = 5 then
    if ¬ v4 = 0 then
      some (1, σ)
    else
      if ¬ t0 = 0 then
        some (1, σ)
      else
        if v2 = 0 then
          some (0, σ)
        else
          some (1, σ)
  else
  if x1 = 6 then
    if ¬ t0 = 0 then
      some (1, σ)
    else
      if v2 = 0 then
        some (0, σ)
      else
        some (1, σ)
  else
  if ¬ v4 = 0 then
    some (1, σ)
  else
    if ¬ t0 = 0 then
      some (1, σ)
    else
      if v2 = 0 then
        some (0, σ)
      else
        some (1, σ)
def Mo_namesUnknown_B48 (v0 : Nat) (v1 : Int32) (v2 : Int32) (v3 : Int32) (t0 : Int32) (σ : St) : Option (Int32 × St) :=
  ld σ (ch v0 32) 8 6 fun x1 =>
  if ¬ x1 = 2 then
    Mo_namesUnknown_B66 v1 v2 v3 t0 0 σ
  else
    Mo_namesUnknown_B66 v1 v2 v3 t0 1 σ
def Mo_namesUnknown_B32 (v0 : Nat) (v1 : Int32) (v2 : Int32) (t0 : Int32) (σ : St) : Option (Int32 × St) :=
  ld σ (ch v0 32) 8 5 fun x1 =>
  if ¬ x1 = 2 then
    Mo_namesUnknown_B48 v0 v1 v2 t0 0 σ
  else
    Mo_namesUnknown_B48 v0 v1 v2 t0 1 σ
def Mo_namesUnknown_B16 (v0 : Nat) (v1 : Int32) (t0 : Int32) (σ : St) : Option (Int32 × St) :=
  ld σ (ch v0 32) 8 4 fun x1 =>
  if ¬ x1 = 2 then
    Mo_namesUnknown_B32 v0 v1 t0 0 σ
  else
    Mo_namesUnknown_B32 v0 v1 t0 1 σ
def Mo_namesUnknown (v0 : Nat) (v1 : Int32) (σ : St) : Option (Int32 × St) :=
  ld σ (ch v0 32) 8 7 fun x1 =>
  if ¬ x1 = 2 then
    Mo_namesUnknown_B16 v0 v1 0 σ
  else
    Mo_namesUnknown_B16 v0 v1 1 σ
def Mo_memoryUnknown (v0 : Nat) (σ : St) : Option (Int32 × St) :=
  cl (Mo_isOnMemory v0 σ) fun x2 σ1 =>
  if x2 = 0 then
    some (0, σ1)
  else
    cl (Mo_isUnknown v0 ((σ1 v0 59) &&& 15) σ1) fun x4 σ3 =>
    if ¬ x4 = 0 then
      some (1, σ3)
    else
      cl (Mo_isUnknown v0 ((shr (σ3 v0 59) 4) &&& 15) σ3) fun x6 σ5 =>
      if x6 = 0 then
        some (0, σ5)
      else
        some (1, σ5)
def Mo_readsUnknown_B114 (v0 : Nat) (t0 : Int32) (σ : St) : Option (Int32 × St) :=
  if t0 = 0 then
    some (0, σ)
  else
    cl (Mo_isUnknown v0 (σ v0 58) σ) fun x2 σ1 =>
    if x2 = 0 then
      some (0, σ1)
    else
      if (σ1 v0 56) = 8 then
        some (0, σ1)
      else
        if (σ1 v0 56) = 10 then
          some (0, σ1)
        else
          if (σ1 v0 56) = 20 then
            some (0, σ1)
          else
            some (1, σ1)
def Mo_readsUnknown_B77 (v0 : Nat) (σ : St) : Option (Int32 × St) :=
  if (σ v0 57) = 1 then
    Mo_readsUnknown_B114 v0 1 σ
  else
    if (σ v0 57) = 2 then
      Mo_readsUnknown_B114 v0 1 σ
    else
      if (σ v0 57) = 3 then
        Mo_readsUnknown_B114 v0 1 σ
      else
        if ¬ (σ v0 57) = 5 then
          Mo_readsUnknown_B114 v0 0 σ
        else
          Mo_readsUnknown_B114 v0 1 σ
def Mo_readsUnknown_B56 (v0 : Nat) (σ : St) : Option (Int32 × St) :=
  if ¬ (σ v0 57) = 4 then
    Mo_readsUnknown_B77 v0 σ
  else
    cl (Mo_isUnknown v0 (σ v0 58) σ) fun x2 σ1 =>
    if x2 = 0 then
      Mo_readsUnknown_B77 v0 σ1
    else
      some (1, σ1)
def Mo_readsUnknown_B37 (v0 : Nat) (σ : St) : Option (Int32 × St) :=
  if ¬ (σ v0 57) = 2 then
    Mo_readsUnknown_B56 v0 σ
  else
    cl (Mo_isUnknown v0 (σ v0 59) σ) fun x2 σ1 =>
    if ¬ x2 = 0 then
      some (1, σ1)
    else
      Mo_readsUnknown_B56 v0 σ1
def Mo_readsUnknown_B25 (v0 : Nat) (σ : St) : Option (Int32 × St) :=
  ld σ (ch v0 32) 8 4 fun x1 =>
  if ¬ x1 = 2 then
    Mo_readsUnknown_B37 v0 σ
  else
    some (1, σ)
def Mo_readsUnknown (v0 : Nat) (σ : St) : Option (Int32 × St) :=
  cl (Mo_memoryUnknown v0 σ) fun x2 σ1 =>
  if x2 = 0 then
    if (σ1 v0 56) = 2 then
      Mo_readsUnknown_B25 v0 σ1
    else
      if ¬ (σ1 v0 56) = 3 then
        Mo_readsUnknown_B37 v0 σ1
      else
        Mo_readsUnknown_B25 v0 σ1
  else
    some (1, σ1)
def Mo_plainStride_B129 (v0 : Nat) (σ : St) : Option (Int32 × St) :=
  cl (Mo_passed v0 ((σ v0 62) + 1) σ) fun x2 σ1 =>
  nm (s2 σ1 v0 62 x2) fun σ3 =>
  some ((-1), σ3)
def Mo_plainStride_B113 (v0 : Nat) (t0 : Int32) (σ : St) : Option (Int32 × St) :=
  cv (Mo_does v0 σ) fun σ1 =>
  if t0 = 0 then
    Mo_plainStride_B129 v0 σ1
  else
    sa σ1 (ch v0 32) 8 4 2 fun σ2 =>
    Mo_plainStride_B129 v0 σ2
def Mo_plainStride (v0 : Nat) (v1 : Int32) (σ : St) : Option (Int32 × St) :=
  ld σ (ch v0 12) 240 v1 fun x1 =>
  ld σ (ch v0 13) 240 v1 fun x2 =>
  ld σ (ch v0 14) 240 v1 fun x3 =>
  ld σ (ch v0 15) 240 v1 fun x4 =>
  ld σ (ch v0 16) 240 v1 fun x5 =>
  ld σ (ch v0 17) 240 v1 fun x6 =>
  cv (Mo_takes v0 x1 x2 x3 x4 x5 x6 σ) fun σ7 =>
  cl (Mo_readsUnknown v0 σ7) fun x9 σ8 =>
  if x9 = 0 then
    cl (Mo_wants v0 σ8) fun x11 σ10 =>
    if x11 = 0 then
      ld σ10 (ch v0 37) 2 1 fun x12 =>
      sa σ10 (ch v0 37) 2 1 (x12 + 1) fun σ13 =>
      if ¬ (σ13 v0 56) = 22 then
        ld σ13 (ch v0 32) 8 4 fun x14 =>
        if ¬ x14 = 2 then
          Mo_plainStride_B113 v0 0 σ13
        else
          if (σ13 v0 56) = 17 then
            Mo_plainStride_B113 v0 1 σ13
          else
            if ¬ (σ13 v0 56) = 18 then
              Mo_plainStride_B113 v0 0 σ13
            else
              Mo_plainStride_B113 v0 1 σ13
      else
        some (1, σ13)
    else
      some (3, σ10)
  else
    some (7, σ8)
def Mo_stride_B448 (v0 : Nat) (v3 : Int32) (σ : St) : Option (Int32 × St) :=
  nm (s2 σ v0 62 v3) fun σ1 =>
  ld σ1 (ch v0 37) 2 1 fun x2 =>
  sa σ1 (ch v0 37) 2 1 (x2 + 1) fun σ3 =>
  some ((-1), σ3)
def Mo_stride_B213 (v0 : Nat) (v1 : Int32) (v2 : Int32) (v4 : Int32) (σ : St) : Option (Int32 × St) :=
  cl (Mo_reg v0 4 σ) fun x2 σ1 =>
  cl (Mo_isThere (x2 - 4) σ1) fun x4 σ3 =>
  if ¬ x4 = 0 then
    cv (Mo_push v0 v4 σ3) fun σ5 =>
    if ¬ v2 = 3 then
      ld σ5 (ch v0 14) 240 v1 fun x6 =>
      nm ((-1) - x6) fun x7 =>
      Mo_stride_B448 v0 x7 σ5
    else
      ld σ5 (ch v0 14) 240 v1 fun x8 =>
      ld σ5 (ch v0 20) 80 (40 + x8) fun x9 =>
      cl (Mo_passed v0 x9 σ5) fun x11 σ10 =>
      Mo_stride_B448 v0 x11 σ10
  else
    some (3, σ3)
def Mo_stride_B333 (v0 : Nat) (v2 : Int32) (v3 : Int32) (v4 : Int32) (σ : St) : Option (Int32 × St) :=
  if ¬ v2 = 6 then
    cv (Mo_forgetFlags v0 σ) fun σ1 =>
    Mo_stride_B448 v0 v3 σ1
  else
    cv (Mo_push v0 v4 σ) fun σ2 =>
    cv (Mo_forgetFlags v0 σ2) fun σ3 =>
    Mo_stride_B448 v0 v3 σ3
def Mo_stride_B272 (v0 : Nat) (v1 : Int32) (v2 : Int32) (v4 : Int32) (σ : St) : Option (Int32 × St) :=
  ld σ (ch v0 14) 240 v1 fun x1 =>
  cl (Mo_isUnknown v0 x1 σ) fun x3 σ2 =>
  if x3 = 0 then
    ld σ2 (ch v0 14) 240 v1 fun x4 =>
    cl (Mo_reg v0 x4 σ2) fun x6 σ5 =>
    cl (Mo_leads v0 x6 σ5) fun x8 σ7 =>
    if ¬ x8 = (-100) then
      if ¬ v2 = 6 then
        Mo_stride_B333 v0 v2 x8 v4 σ7
      else
        cl (Mo_reg v0 4 σ7) fun x10 σ9 =>
        cl (Mo_isThere (x10 - 4) σ9) fun x12 σ11 =>
        if ¬ x12 = 0 then
          Mo_stride_B333 v0 v2 x8 v4 σ11
        else
          some (3, σ11)
    else
      some (9, σ7)
  else
    some (7, σ2)
def Mo_stride (v0 : Nat) (σ : St) : Option (Int32 × St) :=
  if 0 ≤ (σ v0 62) then
    if ¬ (σ v0 62) = (σ v0 9) then
      nm (120 + (σ v0 62)) fun x1 =>
      ld σ (ch v0 11) 240 x1 fun x2 =>
      if ¬ x2 = 9 then
        cl (Mo_passed v0 ((σ v0 62) + 1) σ) fun x4 σ3 =>
        ld σ3 (ch v0 18) 240 x1 fun x5 =>
        nm ((256 + x5) + 5) fun x6 =>
        if x2 = 1 then
          ld σ3 (ch v0 14) 240 x1 fun x7 =>
          ld σ3 (ch v0 20) 80 (40 + x7) fun x8 =>
          cl (Mo_passed v0 x8 σ3) fun x10 σ9 =>
          Mo_stride_B448 v0 x10 σ9
        else
        if x2 = 2 then
          ld σ3 (ch v0 15) 240 x1 fun x11 =>
          cl (Mo_namesUnknown v0 x11 σ3) fun x13 σ12 =>
          if x13 = 0 then
            ld σ12 (ch v0 15) 240 x1 fun x14 =>
            cl (Mo_holds v0 x14 σ12) fun x16 σ15 =>
            if x16 = 0 then
              Mo_stride_B448 v0 x4 σ15
            else
              ld σ15 (ch v0 14) 240 x1 fun x17 =>
              ld σ15 (ch v0 20) 80 (40 + x17) fun x18 =>
              cl (Mo_passed v0 x18 σ15) fun x20 σ19 =>
              Mo_stride_B448 v0 x20 σ19
          else
            some (7, σ12)
        else
        if x2 = 3 then
          Mo_stride_B213 v0 x1 x2 x6 σ3
        else
        if x2 = 4 then
          Mo_stride_B213 v0 x1 x2 x6 σ3
        else
        if x2 = 5 then
          Mo_stride_B272 v0 x1 x2 x6 σ3
        else
        if x2 = 6 then
          Mo_stride_B272 v0 x1 x2 x6 σ3
        else
        if x2 = 7 then
          cl (Mo_reg v0 4 σ3) fun x22 σ21 =>
          cl (Mo_isThere x22 σ21) fun x24 σ23 =>
          if ¬ x24 = 0 then
            cl (Mo_reg v0 4 σ23) fun x26 σ25 =>
            cl (Mo_load v0 x26 σ25) fun x28 σ27 =>
            cl (Mo_leads v0 x28 σ27) fun x30 σ29 =>
            if ¬ x30 = (-100) then
              cl (Mo_reg v0 4 σ29) fun x32 σ31 =>
              cv (Mo_setReg v0 4 (x32 + 4) σ31) fun σ33 =>
              sa σ33 (ch v0 31) 16 9 0 fun σ34 =>
              nm (s2 σ34 v0 40 1) fun σ35 =>
              cv (Mo_forgetFlags v0 σ35) fun σ36 =>
              Mo_stride_B448 v0 x30 σ36
            else
              some (9, σ29)
          else
            some (3, σ23)
        else
        ld σ3 (ch v0 15) 240 x1 fun x37 =>
        ld σ3 (ch v0 14) 240 x1 fun x38 =>
        ld σ3 (ch v0 19) 80 (40 + x38) fun x39 =>
        cv (Mo_setReg v0 x37 (256 + x39) σ3) fun σ40 =>
        Mo_stride_B448 v0 x4 σ40
      else
        cl (Mo_plainStride v0 x1 σ) fun x42 σ41 =>
        some (x42, σ41)
    else
      ld σ (ch v0 37) 2 1 fun x43 =>
      sa σ (ch v0 37) 2 1 (x43 + 1) fun σ44 =>
      some (1, σ44)
  else
    cl (Mo_atService v0 (16 * ((-1) - (σ v0 62))) σ) fun x46 σ45 =>
    some (x46, σ45)
def Mo_walk_B54 : Nat → Nat → Int32 → Int32 → St → Option (Int32 × St)
  | 0, _, _, _, _ => none
  | n + 1, v0, v1, v2, σ =>
    if 0 ≤ v2 then
      sa σ (ch v0 38) 2 1 v2 fun σ1 =>
      if 0 ≤ (σ1 v0 62) then
        if (σ1 v0 9) ≤ (σ1 v0 62) then
          sa σ1 (ch v0 36) 2 1 (256 + (σ1 v0 55)) fun σ2 =>
          some (v2, σ2)
        else
          ld σ1 (ch v0 18) 240 (120 + (σ1 v0 62)) fun x3 =>
          sa σ1 (ch v0 36) 2 1 (256 + x3) fun σ4 =>
          some (v2, σ4)
      else
        sa σ1 (ch v0 36) 2 1 (16 * ((-1) - (σ1 v0 62))) fun σ5 =>
        some (v2, σ5)
    else
      ld σ (ch v0 37) 2 1 fun x6 =>
      if ¬ x6 = v1 then
        cl (Mo_stride v0 σ) fun x8 σ7 =>
        Mo_walk_B54 n v0 v1 x8 σ7
      else
        Mo_walk_B54 n v0 v1 0 σ
def Mo_walk_B30 (v0 : Nat) (v1 : Int32) (t0 : Nat) (t1 : Int32) (t2 : Int32) (σ : St) : Option (Int32 × St) :=
  cl (Mo_throwing t0 t1 t2 σ) fun x2 σ1 =>
  if x2 = 0 then
    cv (Mo_begin v0 1 σ1) fun σ3 =>
    cl (Mo_passed v0 0 σ3) fun x5 σ4 =>
    nm (s2 σ4 v0 62 x5) fun σ6 =>
    Mo_walk_B54 FU v0 v1 (-1) σ6
  else
    some (0, σ1)
def Mo_walk (v0 : Nat) (v1 : Int32) (σ : St) : Option (Int32 × St) :=
  if ¬ (σ v0 10) = 0 then
    if v1 < 1 then
      Mo_walk_B30 v0 v1 v0 0 1 σ
    else
      if v1 ≤ 5000 then
        Mo_walk_B30 v0 v1 v0 0 0 σ
      else
        Mo_walk_B30 v0 v1 v0 0 1 σ
  else
    if v1 < 1 then
      Mo_walk_B30 v0 v1 v0 1 1 σ
    else
      if v1 ≤ 5000 then
        Mo_walk_B30 v0 v1 v0 1 0 σ
      else
        Mo_walk_B30 v0 v1 v0 1 1 σ
def Mo_state_B35 (v0 : Nat) (v1 : Int32) (v2 : Int32) (v3 : Int32) (t0 : Nat) (t1 : Int32) (σ : St) : Option (Int32 × St) :=
  cl (Mo_throwing t0 t1 0 σ) fun x2 σ1 =>
  if x2 = 0 then
    if 8 ≤ v2 then
      if 12 ≤ v2 then
        if v2 = 12 then
          ld σ1 (ch v0 36) 2 v3 fun x3 =>
          some (x3, σ1)
        else
        if v2 = 13 then
          ld σ1 (ch v0 37) 2 v3 fun x4 =>
          some (x4, σ1)
        else
        if v2 = 14 then
          ld σ1 (ch v0 38) 2 v3 fun x5 =>
          some (x5, σ1)
        else
        if v2 = 15 then
          ld σ1 (ch v0 35) 2 v3 fun x6 =>
          some (x6, σ1)
        else
        if v2 = 16 then
          if v1 = 0 then
            some (σ1 v0 39, σ1)
          else
            some (0, σ1)
        else
        if v1 = 0 then
          some (0, σ1)
        else
          if (σ1 v0 40) = 0 then
            some (0, σ1)
          else
            some (1, σ1)
      else
        ld σ1 (ch v0 32) 8 (((4 * v3) + v2) - 8) fun x7 =>
        some (x7, σ1)
    else
      ld σ1 (ch v0 31) 16 ((8 * v3) + v2) fun x8 =>
      some (x8, σ1)
  else
    some (0, σ1)
def Mo_state_B9 (v0 : Nat) (v1 : Int32) (v2 : Int32) (t0 : Int32) (σ : St) : Option (Int32 × St) :=
  ld σ (ch v0 30) 2 t0 fun x1 =>
  if x1 = 0 then
    Mo_state_B35 v0 v1 v2 t0 v0 1 σ
  else
    if v2 < 0 then
      Mo_state_B35 v0 v1 v2 t0 v0 1 σ
    else
      if v2 ≤ 17 then
        Mo_state_B35 v0 v1 v2 t0 v0 0 σ
      else
        Mo_state_B35 v0 v1 v2 t0 v0 1 σ
def Mo_state (v0 : Nat) (v1 : Int32) (v2 : Int32) (σ : St) : Option (Int32 × St) :=
  if v1 = 0 then
    Mo_state_B9 v0 v1 v2 0 σ
  else
    Mo_state_B9 v0 v1 v2 1 σ
def Mo_data_B14 (v0 : Nat) (v2 : Int32) (t0 : Int32) (σ : St) : Option (Int32 × St) :=
  ld σ (ch v0 30) 2 t0 fun x1 =>
  if x1 = 0 then
    some ((-1), σ)
  else
    if v2 < 0 then
      some ((-1), σ)
    else
      if 1024 ≤ v2 then
        some ((-1), σ)
      else
        ld σ (ch v0 33) 2048 ((1024 * t0) + v2) fun x2 =>
        some (x2, σ)
def Mo_data (v0 : Nat) (v1 : Int32) (v2 : Int32) (σ : St) : Option (Int32 × St) :=
  nm (s2 σ v0 0 0) fun σ1 =>
  if v1 = 0 then
    Mo_data_B14 v0 v2 0 σ1
  else
    Mo_data_B14 v0 v2 1 σ1
def Mo_output_B39 (v0 : Nat) (v2 : Int32) (v3 : Int32) (t0 : Nat) (t1 : Int32) (σ : St) : Option (Int32 × St) :=
  cl (Mo_throwing t0 t1 0 σ) fun x2 σ1 =>
  if x2 = 0 then
    ld σ1 (ch v0 34) 200 ((100 * v3) + v2) fun x3 =>
    some (x3, σ1)
  else
    some (0, σ1)
def Mo_output_B9 (v0 : Nat) (v2 : Int32) (t0 : Int32) (σ : St) : Option (Int32 × St) :=
  ld σ (ch v0 30) 2 t0 fun x1 =>
  if x1 = 0 then
    Mo_output_B39 v0 v2 t0 v0 1 σ
  else
    if v2 < 0 then
      Mo_output_B39 v0 v2 t0 v0 1 σ
    else
      ld σ (ch v0 35) 2 t0 fun x2 =>
      if v2 < x2 then
        Mo_output_B39 v0 v2 t0 v0 0 σ
      else
        Mo_output_B39 v0 v2 t0 v0 1 σ
def Mo_output (v0 : Nat) (v1 : Int32) (v2 : Int32) (σ : St) : Option (Int32 × St) :=
  if v1 = 0 then
    Mo_output_B9 v0 v2 0 σ
  else
    Mo_output_B9 v0 v2 1 σ
