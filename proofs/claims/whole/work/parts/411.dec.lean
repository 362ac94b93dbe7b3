/-! ===== an INSTRUCTION taken apart, as a function of the bytes ===== -/
/-- four bytes, the lowest first -/
def b4 (row : Nat → Int32) (p : Nat) : Int32 := ((row p ||| shl (row (p + 1)) 8) ||| shl (row (p + 2)) 16) ||| shl (row (p + 3)) 24
def num (row : Nat → Int32) (n : Nat) (z : Int32) (p : Nat) : Option (Int32 × Nat) :=
  if z = 0 then some (0, p) else if z = 4 then (if p + 3 < n then some (b4 row p, p + 4) else none) else if p < n then some (if z = 1 then i2b (row p) else row p, p + 1) else none
/-- X and how D is told: mode, base, index, scale -/
def mx_x (mo ba ix sc : Int32) : Int32 := ((if mo = 0 ∧ ba = 5 then 8 else ba) + 16 * ix) + 256 * sc
def mx_d (mo ba : Int32) : Int32 := if mo = 1 then 1 else if mo = 0 then (if ba = 5 then 4 else 0) else 4
/-- in a register, X, how D is told, the place behind -/
def opnd (row : Nat → Int32) (n p : Nat) : Option (Int32 × Int32 × Int32 × Nat) :=
  if p < n then
    if shr (row p) 6 = 3 then some (1, 0, 0, p + 1)
    else if row p &&& 7 = 4 then
      (if p + 1 < n then
        (if (shr (row (p + 1)) 3) &&& 7 = 4 then some (0, mx_x (shr (row p) 6) (row (p + 1) &&& 7) 8 0, mx_d (shr (row p) 6) (row (p + 1) &&& 7), p + 2)
         else some (0, mx_x (shr (row p) 6) (row (p + 1) &&& 7) ((shr (row (p + 1)) 3) &&& 7) (shr (row (p + 1)) 6), mx_d (shr (row p) 6) (row (p + 1) &&& 7), p + 2))
       else none)
    else some (0, mx_x (shr (row p) 6) (row p &&& 7) 8 0, mx_d (shr (row p) 6) (row p &&& 7), p + 1)
  else none
/-- the k of a group tells the OP -/
def gop (l md ir : Int32) : Int32 :=
  if l = 193 then (if md = 4 then 14 else if md = 5 then 15 else if md = 7 then 16 else -1)
  else if l = 199 then (if md = 0 then 8 else -1)
  else if l = 247 then (if md = 2 then 12 else if md = 3 then 13 else -1)
  else if l = 255 then (if ir = 0 then -1 else if md = 4 then 27 else if md = 2 then 28 else -1)
  else md
/-- what the first byte tells: the sort of operand (9: none such), OP, FORM, R, the size of I -/
def sd (l : Int32) : Int32 × Int32 × Int32 × Int32 × Int32 :=
  if l < 64 then (if l &&& 7 = 1 then (1, shr l 3, 0, 0, 0) else if l &&& 7 = 3 then (2, shr l 3, 0, 0, 0) else (9, 0, 0, 0, 0))
  else if l < 96 then (0, 17 + (l - 64) / 8, 1, l &&& 7, 0)
  else if ¬ l < 112 ∧ l < 128 then (if l = 122 ∨ l = 123 then (9, 0, 0, 0, 0) else (0, 25, 8, l - 112, 1))
  else if ¬ l < 184 ∧ l < 192 then (0, 8, 5, l - 184, 4)
  else if l = 104 then (0, 19, 8, 0, 4)
  else if l = 106 then (0, 19, 8, 0, 1)
  else if l = 129 then (3, 0, 0, 0, 4)
  else if l = 131 then (3, 0, 0, 0, 1)
  else if l = 133 then (1, 9, 0, 0, 0)
  else if l = 137 then (1, 8, 0, 0, 0)
  else if l = 139 then (2, 8, 0, 0, 0)
  else if l = 141 then (2, 10, 0, 0, 0)
  else if l = 144 then (0, 21, 0, 0, 0)
  else if l = 193 then (3, 14, 0, 0, 2)
  else if l = 195 then (0, 23, 0, 0, 0)
  else if l = 199 then (3, 8, 0, 0, 4)
  else if l = 232 then (0, 26, 8, 0, 4)
  else if l = 233 then (0, 24, 8, 0, 4)
  else if l = 235 then (0, 24, 8, 0, 1)
  else if l = 244 then (0, 22, 0, 0, 0)
  else if l = 247 then (3, 12, 0, 0, 0)
  else if l = 255 then (3, 27, 0, 0, 0)
  else (9, 0, 0, 0, 0)
/-- the same of the byte behind 15 -/
def sd2 (l : Int32) : Int32 × Int32 × Int32 × Int32 × Int32 :=
  if l = 175 then (2, 11, 0, 0, 0) else if ¬ l < 128 ∧ l < 144 then (if l = 138 ∨ l = 139 then (9, 0, 0, 0, 0) else (0, 25, 8, l - 128, 4)) else (9, 0, 0, 0, 0)
/-- OP, FORM, R, X, D, I, the place behind -/
abbrev Ins : Type := Int32 × Int32 × Int32 × Int32 × Int32 × Int32 × Nat
def dI (row : Nat → Int32) (n : Nat) (vs op fm r x d : Int32) (p : Nat) : Option Ins :=
  match num row n vs p with
  | none => none
  | some (i, p') => some (op, fm, r, x, d, i, p')
def dD (row : Nat → Int32) (n : Nat) (ds vs op fm r x : Int32) (p : Nat) : Option Ins :=
  match num row n ds p with
  | none => none
  | some (d, p') => dI row n vs op fm r x d p'
/-- behind the operand's bytes: the middle and the low part of the first one tell OP, FORM, R, X -/
def gf (l os op vs md lo ir x : Int32) : Option (Int32 × Int32 × Int32 × Int32) :=
  if os = 1 then (if ir = 0 then some (op, 4, md, x) else some (op, 2, lo, md))
  else if os = 2 then (if ir = 0 then some (op, 3, md, x) else if op = 10 then none else some (op, 2, md, lo))
  else if gop l md ir = -1 then none
  else if ir = 0 then some (gop l md ir, if vs = 0 then 7 else 6, 0, x)
  else some (gop l md ir, if vs = 0 then 1 else 5, lo, x)
def dO (row : Nat → Int32) (n : Nat) (l os op vs md lo : Int32) (ir x ds : Int32) (p : Nat) : Option Ins :=
  match gf l os op vs md lo ir x with
  | none => none
  | some (o, fm, r, x') => dD row n ds vs o fm r x' p
def dB (row : Nat → Int32) (n : Nat) (l : Int32) (s : Int32 × Int32 × Int32 × Int32 × Int32) (p : Nat) : Option Ins :=
  if s.1 = 9 then none
  else if s.1 = 0 then dI row n s.2.2.2.2 s.2.1 s.2.2.1 s.2.2.2.1 0 0 p
  else match opnd row n p with
    | none => none
    | some (ir, x, ds, p') => dO row n l s.1 s.2.1 s.2.2.2.2 ((shr (row p) 3) &&& 7) (row p &&& 7) ir x ds p'
def dc (row : Nat → Int32) (n p : Nat) : Option Ins :=
  if p < n then
    if row p = 15 then (if p + 1 < n then dB row n 15 (sd2 (row (p + 1))) (p + 2) else none)
    else dB row n (row p) (sd (row p)) (p + 1)
  else none
