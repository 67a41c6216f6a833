abbrev S_D : Type := Int64
abbrev S_J : Type := (Nat → Int32)
abbrev S_M : Type := (Nat → Int32) × (Nat → Int32) × (Nat → Int32) × (Nat → Int32) × Int32 × (Nat → Int32) × (Nat → Int32) × (Nat → Int32) × Int32
abbrev S_P : Type := (Nat → Int32) × (Nat → Int32) × (Nat → Int32) × (Nat → Int32)
abbrev S_T : Type := S_M × S_J × (Nat → Int32) × Int32 × Int32 × Int32 × Int32 × Int32 × S_D
abbrev S_H : Type := S_P × S_P × S_T × S_D × Int32 × Int32
abbrev S_R : Type := Int32 × (Nat → Int32) × (Nat → Int32) × (Nat → Int32) × (Nat → Int32) × (Nat → Int32) × (Nat → Int32) × Int32 × Int64 × (Nat → Int32) × (Nat → Int32) × (Nat → Int32) × (Nat → Int32) × Int32 × Int32 × (Nat → Int32) × (Nat → Int32) × (Nat → Int32) × (Nat → Int32) × (Nat → Int32) × (Nat → Int32) × (Nat → Int32) × Int32 × Int32 × Int32 × Int32 × Int32 × (Nat → Int32)
def f_P_size (fu : Nat) (P : S_P) : Option (Int32) :=
  ck (inb 0 3) <|
  ck (inb 1 3) <|
  ck (inb 2 3) <|
  some (((P.1 (ix 0)) + (P.1 (ix 1))) + (P.1 (ix 2)))
def f_P_empty_L2 (fu : Nat) : Nat → S_P → Int32 → Option (S_P)
  | 0, _, _ => none
  | n + 1, P, v1 =>
    if 3 ≤ v1 then
      some P
    else
      ck (inb v1 3) <|
      f_P_empty_L2 fu n ((upd P.1 (ix v1) 0), P.2) (v1 + 1)
def f_P_empty (fu : Nat) (P : S_P) : Option (S_P) :=
  f_P_empty_L2 fu fu P 0
def f_H_clear (fu : Nat) (H : S_H) : Option (Int32 × S_H) :=
  bd (f_P_size fu H.1) fun r4 =>
  bd (f_P_empty fu H.1) fun P_12 =>
  ck (isB 0) <|
  some (r4, (P_12, H.2.1, H.2.2.1, H.2.2.2.1, H.2.2.2.2.1, 0))
def f_H_isBelow (fu : Nat) (a0 : Int32) (a1 : Int32) : Option (Int32) :=
  if a0 < 0 then
    ck (isB 0) <|
    some 0
  else
    if a1 ≤ a0 then
      ck (isB 0) <|
      some 0
    else
      ck (isB 1) <|
      some 1
def f_P_copyFrom_L25 (fu : Nat) (P1 : S_P) (P : S_P) : Option (S_P) :=
  bd (f_P_size fu P) fun r26 =>
  ck (cpok 0 0 r26 14 14) <|
  ck (cpok 0 0 r26 14 14) <|
  ck (cpok 0 0 r26 14 14) <|
  some ((P.1, (va_cpy P1.2.1 P.2.1 (ix 0) (ix 0) (ix r26)), (va_cpy P1.2.2.1 P.2.2.1 (ix 0) (ix 0) (ix r26)), (va_cpy P1.2.2.2 P.2.2.2 (ix 0) (ix 0) (ix r26))))
def f_P_copyFrom_L2 (fu : Nat) (P1 : S_P) : Nat → S_P → Int32 → Option (S_P)
  | 0, _, _ => none
  | n + 1, P, v2 =>
    if 3 ≤ v2 then
      f_P_copyFrom_L25 fu P1 P
    else
      ck (inb v2 3) <|
      ck (inb v2 3) <|
      f_P_copyFrom_L2 fu P1 n ((upd P.1 (ix v2) (P1.1 (ix v2))), P.2) (v2 + 1)
def f_P_copyFrom (fu : Nat) (P : S_P) (P1 : S_P) : Option (S_P) :=
  f_P_copyFrom_L2 fu P1 fu P 0
def f_P_start (fu : Nat) (P : S_P) (a1 : Int32) : Option (Int32) :=
  if a1 = 0 then
    some 0
  else
  if a1 = 1 then
    ck (inb 0 3) <|
    some (P.1 (ix 0))
  else
  ck (inb 0 3) <|
  ck (inb 1 3) <|
  some ((P.1 (ix 0)) + (P.1 (ix 1)))
def f_P_end (fu : Nat) (P : S_P) (a1 : Int32) : Option (Int32) :=
  bd (f_P_start fu P a1) fun r2 =>
  ck (inb a1 3) <|
  some (r2 + (P.1 (ix a1)))
def f_P_put (fu : Nat) (P : S_P) (a1 : Int32) (a2 : Int32) (a3 : Int32) (a4 : Int32) : Option (S_P) :=
  ck (inb a1 14) <|
  ck (inb a1 14) <|
  ck (inb a1 14) <|
  some ((P.1, (upd P.2.1 (ix a1) a2), (upd P.2.2.1 (ix a1) a3), (upd P.2.2.2 (ix a1) a4)))
def f_P_shiftUp_L2 (fu : Nat) : Nat → S_P → Int32 → Int32 → Option (S_P)
  | 0, _, _, _ => none
  | n + 1, P, v1, v3 =>
    if v3 ≤ v1 then
      some P
    else
      ck (inb (v3 - 1) 14) <|
      ck (inb (v3 - 1) 14) <|
      ck (inb (v3 - 1) 14) <|
      bd (f_P_put fu P v3 (P.2.1 (ix (v3 - 1))) (P.2.2.1 (ix (v3 - 1))) (P.2.2.2 (ix (v3 - 1)))) fun P_33 =>
      f_P_shiftUp_L2 fu n P_33 v1 (v3 + (-1))
def f_P_shiftUp (fu : Nat) (P : S_P) (a1 : Int32) (a2 : Int32) : Option (S_P) :=
  f_P_shiftUp_L2 fu fu P a1 a2
def f_P_renumber_L8 (fu : Nat) : Nat → S_P → Int32 → Int32 → Int32 → Int32 → Option (S_P)
  | 0, _, _, _, _, _ => none
  | n + 1, P, v1, v2, v3, v4 =>
    if v3 ≤ v4 then
      some P
    else
      ck (inb v4 14) <|
      if (P.2.2.2 (ix v4)) < (8 + v1) then
        f_P_renumber_L8 fu n P v1 v2 v3 (v4 + 1)
      else
        ck (inb v4 14) <|
        ck (inb v4 14) <|
        f_P_renumber_L8 fu n (P.1, P.2.1, P.2.2.1, (upd P.2.2.2 (ix v4) ((P.2.2.2 (ix v4)) + v2))) v1 v2 v3 (v4 + 1)
def f_P_renumber (fu : Nat) (P : S_P) (a1 : Int32) (a2 : Int32) : Option (S_P) :=
  bd (f_P_size fu P) fun r1 =>
  f_P_renumber_L8 fu fu P a1 a2 r1 0
def f_P_append (fu : Nat) (P : S_P) (a1 : Int32) (a2 : Int32) (a3 : Int32) (a4 : Int32) : Option (S_P) :=
  bd (f_P_end fu P a1) fun r2 =>
  bd (f_P_size fu P) fun r11 =>
  bd (f_P_shiftUp fu P r2 r11) fun P_14 =>
  ck (inb a1 3) <|
  ck (inb a1 3) <|
  bd (f_P_renumber fu ((upd P_14.1 (ix a1) ((P_14.1 (ix a1)) + 1)), P_14.2) r2 1) fun P_31 =>
  bd (f_P_put fu P_31 r2 a2 a3 a4) fun P_41 =>
  some P_41
def f_O_isOpen (fu : Nat) (a0 : Int32) (a1 : Int32) : Option (Int32) :=
  if ((a0 >>> ((4 * a1) &&& 31)) &&& 8) = 0 then
    ck (isB 0) <|
    some 0
  else
    ck (isB 1) <|
    some 1
def f_O_source (fu : Nat) (a0 : Int32) : Option (Int32) :=
  ck (nz 3) <|
  some ((a0 + 1) - (a0 + 1) / 3 * 3)
def f_O_allows (fu : Nat) (a0 : Int32) (a1 : Int32) (a2 : Int32) : Option (Int32) :=
  if a1 = 0 then
    bd (f_O_isOpen fu a0 a2) fun r30 =>
    if r30 = 0 then
      ck (isB 1) <|
      some 1
    else
      ck (isB 0) <|
      some 0
  else
  if a1 = 6 then
    bd (f_O_isOpen fu a0 a2) fun r44 =>
    if r44 = 0 then
      ck (isB 0) <|
      some 0
    else
      bd (f_O_source fu a2) fun r52 =>
      bd (f_O_isOpen fu a0 r52) fun r55 =>
      if r55 = 0 then
        ck (isB 0) <|
        some 0
      else
        ck (isB 1) <|
        some 1
  else
  bd (f_O_isOpen fu a0 a2) fun r69 =>
  ck (isB r69) <|
  some r69
def f_O_content (fu : Nat) (a0 : Int32) (a1 : Int32) : Option (Int32) :=
  some ((a0 >>> ((4 * a1) &&& 31)) &&& 15)
def f_O_held (fu : Nat) (a0 : Int32) (a1 : Int32) : Option (Int32) :=
  some ((a0 >>> ((4 * a1) &&& 31)) &&& 7)
def f_O_after_L118 (fu : Nat) (v0 : Int32) (v2 : Int32) (v6 : Int32) : Option (Int32) :=
  some ((v0 &&& ((15 <<< ((4 * v2) &&& 31)) ^^^ (-1))) ||| (v6 <<< ((4 * v2) &&& 31)))
def f_O_after (fu : Nat) (a0 : Int32) (a1 : Int32) (a2 : Int32) (a3 : Int32) : Option (Int32) :=
  bd (f_O_content fu a0 a2) fun r2 =>
  if a1 = 0 then
    f_O_after_L118 fu a0 a2 (8 + a3)
  else
  if a1 = 1 then
    f_O_after_L118 fu a0 a2 0
  else
  if a1 = 2 then
    f_O_after_L118 fu a0 a2 r2
  else
  if a1 = 3 then
    f_O_after_L118 fu a0 a2 ((r2 &&& 8) + a3)
  else
  if a1 = 4 then
    bd (f_O_held fu a0 a2) fun r82 =>
    ck (nz 8) <|
    f_O_after_L118 fu a0 a2 ((r2 &&& 8) + ((r82 + a3) - (r82 + a3) / 8 * 8))
  else
  if a1 = 5 then
    f_O_after_L118 fu a0 a2 ((r2 &&& 8) + a3)
  else
  if a1 = 6 then
    bd (f_O_source fu a2) fun r100 =>
    bd (f_O_held fu a0 r100) fun r103 =>
    f_O_after_L118 fu a0 a2 ((r2 &&& 8) + r103)
  else
  f_O_after_L118 fu a0 a2 ((r2 &&& 8) + a3)
def f_P_isValidBeside_L98 (fu : Nat) (P : S_P) (v2 : Int32) (v3 : Int32) : Option (Int32) :=
  if v2 = (-1) then
    ck (isB 1) <|
    some 1
  else
    ck (inb v2 14) <|
    ck (inb v2 14) <|
    bd (f_O_allows fu v3 (P.2.1 (ix v2)) (P.2.2.1 (ix v2))) fun r116 =>
    if r116 = 0 then
      ck (isB 0) <|
      some 0
    else
      ck (isB 1) <|
      some 1
def f_P_isValidBeside_L49 (fu : Nat) (P : S_P) (k16 : Int32 → Int32 → Int32 → Int32 → Option (Int32)) (v2 : Int32) (v3 : Int32) (v4 : Int32) (v5 : Int32) : Option (Int32) :=
  ck (inb v5 14) <|
  ck (inb v5 14) <|
  bd (f_O_allows fu v3 (P.2.1 (ix v5)) (P.2.2.1 (ix v5))) fun r64 =>
  if r64 = 0 then
    ck (isB 0) <|
    some 0
  else
    ck (inb v5 14) <|
    ck (inb v5 14) <|
    bd (f_O_after fu v3 (P.2.1 (ix v5)) (P.2.2.1 (ix v5)) 0) fun r88 =>
    k16 v2 r88 v4 (v5 + 1)
def f_P_isValidBeside_L16 (fu : Nat) (P : S_P) : Nat → Int32 → Int32 → Int32 → Int32 → Option (Int32)
  | 0, _, _, _, _ => none
  | n + 1, v2, v3, v4, v5 =>
    if v4 ≤ v5 then
      f_P_isValidBeside_L98 fu P v2 v3
    else
      if v2 = (-1) then
        f_P_isValidBeside_L49 fu P (f_P_isValidBeside_L16 fu P n) v2 v3 v4 v5
      else
        ck (inb v2 14) <|
        ck (inb v2 14) <|
        bd (f_O_allows fu v3 (P.2.1 (ix v2)) (P.2.2.1 (ix v2))) fun r41 =>
        if r41 = 0 then
          ck (isB 0) <|
          some 0
        else
          f_P_isValidBeside_L49 fu P (f_P_isValidBeside_L16 fu P n) v2 v3 v4 v5
def f_P_isValidBeside (fu : Nat) (P : S_P) (a1 : Int32) (a2 : Int32) : Option (Int32) :=
  bd (f_P_end fu P 2) fun r4 =>
  bd (f_P_start fu P 2) fun r11 =>
  f_P_isValidBeside_L16 fu P fu a2 a1 r4 r11
def f_P_isValid_L117 (fu : Nat) (P : S_P) (v1 : Int32) : Option (Int32) :=
  bd (f_P_isValidBeside fu P v1 (-1)) fun r120 =>
  ck (isB r120) <|
  some r120
def f_P_isValid_L73 (fu : Nat) (P : S_P) : Nat → Int32 → Int32 → Int32 → Option (Int32)
  | 0, _, _, _ => none
  | n + 1, v1, v3, v4 =>
    if v3 ≤ v4 then
      f_P_isValid_L117 fu P v1
    else
      bd (f_P_isValidBeside fu P v1 v4) fun r83 =>
      if r83 = 0 then
        ck (isB 0) <|
        some 0
      else
        ck (inb v4 14) <|
        ck (inb v4 14) <|
        bd (f_O_after fu v1 (P.2.1 (ix v4)) (P.2.2.1 (ix v4)) 0) fun r107 =>
        f_P_isValid_L73 fu P n r107 v3 (v4 + 1)
def f_P_isValid_L60 (fu : Nat) (P : S_P) (v1 : Int32) : Option (Int32) :=
  bd (f_P_end fu P 1) fun r62 =>
  bd (f_P_start fu P 1) fun r68 =>
  f_P_isValid_L73 fu P fu v1 r62 r68
def f_P_isValid_L10 (fu : Nat) (P : S_P) : Nat → Int32 → Int32 → Int32 → Option (Int32)
  | 0, _, _, _ => none
  | n + 1, v1, v2, v3 =>
    if v2 ≤ v3 then
      f_P_isValid_L60 fu P v1
    else
      ck (inb v3 14) <|
      ck (inb v3 14) <|
      bd (f_O_allows fu v1 (P.2.1 (ix v3)) (P.2.2.1 (ix v3))) fun r28 =>
      if r28 = 0 then
        ck (isB 0) <|
        some 0
      else
        ck (inb v3 14) <|
        ck (inb v3 14) <|
        bd (f_O_after fu v1 (P.2.1 (ix v3)) (P.2.2.1 (ix v3)) 0) fun r50 =>
        f_P_isValid_L10 fu P n r50 v2 (v3 + 1)
def f_P_isValid (fu : Nat) (P : S_P) : Option (Int32) :=
  bd (f_P_end fu P 0) fun r4 =>
  f_P_isValid_L10 fu P fu 0 r4 0
def f_H_appendIfValid (fu : Nat) (H : S_H) (a1 : Int32) (a2 : Int32) (a3 : Int32) (a4 : Int32) : Option (Int32 × S_H) :=
  bd (f_P_copyFrom fu H.2.1 H.1) fun P_8 =>
  bd (f_P_append fu P_8 a1 a2 a3 a4) fun P_20 =>
  bd (f_P_isValid fu P_20) fun r27 =>
  if r27 = 0 then
    ck (isB 0) <|
    some (0, (H.1, P_20, H.2.2))
  else
    bd (f_P_copyFrom fu H.1 P_20) fun P_43 =>
    ck (isB 1) <|
    some (1, (P_43, P_20, H.2.2))
def f_D_below (fu : Nat) (D : S_D) (a1 : Int32) : Option (Int32 × S_D) :=
  if a1 ≤ 0 then
    some (0, (D * 6364136223846793005) + 1442695040888963407)
  else
    ck (nz a1) <|
    some ((((((D * 6364136223846793005) + 1442695040888963407).toUInt64 >>> ((33 : Int32).toInt64.toUInt64 &&& Int64.toUInt64 63)).toInt64).toInt32) - (((((D * 6364136223846793005) + 1442695040888963407).toUInt64 >>> ((33 : Int32).toInt64.toUInt64 &&& Int64.toUInt64 63)).toInt64).toInt32) / a1 * a1, (D * 6364136223846793005) + 1442695040888963407)
def f_P_known (fu : Nat) (P : S_P) (a1 : Int32) : Option (Int32) :=
  if a1 = 0 then
    ck (inb 0 3) <|
    some (P.1 (ix 0))
  else
    ck (inb 0 3) <|
    ck (inb a1 3) <|
    some ((P.1 (ix 0)) + (P.1 (ix a1)))
def f_P_knownAt (fu : Nat) (P : S_P) (a1 : Int32) (a2 : Int32) : Option (Int32) :=
  ck (inb 0 3) <|
  if (P.1 (ix 0)) ≤ a2 then
    bd (f_P_start fu P a1) fun r16 =>
    ck (inb 0 3) <|
    some ((r16 + a2) - (P.1 (ix 0)))
  else
    some a2
def f_H_drawCommand_L82 (fu : Nat) (H : S_H) (v1 : Int32) (v2 : Int32) (v3 : Int32) : Option (Int32 × S_H) :=
  bd (f_D_below fu H.2.2.2.1 8) fun (r88, D_88) =>
  bd (f_H_appendIfValid fu (H.1, H.2.1, H.2.2.1, D_88, H.2.2.2.2) v1 v2 v3 r88) fun (r99, H_99) =>
  ck (isB r99) <|
  some (r99, H_99)
def f_H_drawCommand_L35 (fu : Nat) (H : S_H) (v1 : Int32) (v2 : Int32) (v3 : Int32) (s0 : Int32) : Option (Int32 × S_H) :=
  bd (f_P_known fu H.1 v1) fun r42 =>
  if s0 = 0 then
    f_H_drawCommand_L82 fu H v1 v2 v3
  else
    if r42 ≤ 0 then
      f_H_drawCommand_L82 fu H v1 v2 v3
    else
      bd (f_D_below fu H.2.2.2.1 r42) fun (r70, D_70) =>
      bd (f_P_knownAt fu H.1 v1 r70) fun r73 =>
      bd (f_H_appendIfValid fu (H.1, H.2.1, H.2.2.1, D_70, H.2.2.2.2) v1 v2 v3 (8 + r73)) fun (r99, H_99) =>
      ck (isB r99) <|
      some (r99, H_99)
def f_H_drawCommand (fu : Nat) (H : S_H) (a1 : Int32) : Option (Int32 × S_H) :=
  bd (f_D_below fu H.2.2.2.1 7) fun (r6, D_6) =>
  bd (f_D_below fu D_6 3) fun (r15, D_15) =>
  bd (f_D_below fu D_15 4) fun (r24, D_24) =>
  if r24 = 0 then
    f_H_drawCommand_L35 fu (H.1, H.2.1, H.2.2.1, D_24, H.2.2.2.2) a1 r6 r15 1
  else
    f_H_drawCommand_L35 fu (H.1, H.2.1, H.2.2.1, D_24, H.2.2.2.2) a1 r6 r15 0
def f_H_drawBranch_L13 (fu : Nat) (k2 : S_H → Int32 → Int32 → Int32 → Option (S_H)) : Nat → S_H → Int32 → Int32 → Int32 → Int32 → Int32 → Option (S_H)
  | 0, _, _, _, _, _, _ => none
  | n + 1, H, v1, v2, v3, v4, v5 =>
    if 20 ≤ v5 then
      k2 H v1 v2 (v3 + 1)
    else
      if v4 = 0 then
        bd (f_H_drawCommand fu H v1) fun (r27, H_27) =>
        f_H_drawBranch_L13 fu k2 n H_27 v1 v2 v3 r27 (v5 + 1)
      else
        k2 H v1 v2 (v3 + 1)
def f_H_drawBranch_L2 (fu : Nat) : Nat → S_H → Int32 → Int32 → Int32 → Option (S_H)
  | 0, _, _, _, _ => none
  | n + 1, H, v1, v2, v3 =>
    if v2 ≤ v3 then
      some H
    else
      f_H_drawBranch_L13 fu (f_H_drawBranch_L2 fu n) fu H v1 v2 v3 0 0
def f_H_drawBranch (fu : Nat) (H : S_H) (a1 : Int32) (a2 : Int32) : Option (S_H) :=
  f_H_drawBranch_L2 fu fu H a1 a2 0
def f_P_lower_L37 (fu : Nat) (P : S_P) (v1 : Int32) (v2 : Int32) (v3 : Int32) (s0 : Int32) (s1 : Int32) : Option (Int32 × S_P) :=
  if s1 ≤ s0 then
    if v2 = 0 then
      ck (inb v1 14) <|
      ck (isB 1) <|
      some (1, (P.1, P.2.1, P.2.2.1, (upd P.2.2.2 (ix v1) 0)))
    else
      ck (nz 2) <|
      ck (inb v1 14) <|
      ck (isB 1) <|
      some (1, (P.1, P.2.1, P.2.2.1, (upd P.2.2.2 (ix v1) (v3 / 2))))
  else
    ck (isB 0) <|
    some (0, P)
def f_P_lower (fu : Nat) (P : S_P) (a1 : Int32) (a2 : Int32) : Option (Int32 × S_P) :=
  if a1 < 0 then
    ck (isB 0) <|
    some (0, P)
  else
    bd (f_P_size fu P) fun r6 =>
    if a1 < r6 then
      ck (inb a1 14) <|
      if 8 ≤ (P.2.2.2 (ix a1)) then
        ck (isB 0) <|
        some (0, P)
      else
        if a2 = 0 then
          f_P_lower_L37 fu P a1 a2 (P.2.2.2 (ix a1)) (P.2.2.2 (ix a1)) 1
        else
          f_P_lower_L37 fu P a1 a2 (P.2.2.2 (ix a1)) (P.2.2.2 (ix a1)) 2
    else
      ck (isB 0) <|
      some (0, P)
def f_P_hasRoom (fu : Nat) (P : S_P) (a1 : Int32) : Option (Int32) :=
  ck (inb a1 3) <|
  if a1 = 0 then
    if 6 ≤ (P.1 (ix a1)) then
      ck (isB 0) <|
      some 0
    else
      ck (isB 1) <|
      some 1
  else
    if 4 ≤ (P.1 (ix a1)) then
      ck (isB 0) <|
      some 0
    else
      ck (isB 1) <|
      some 1
def f_P_promote_L102 (fu : Nat) : Nat → S_P → Int32 → Int32 → Int32 → Int32 → Option (Int32 × S_P)
  | 0, _, _, _, _, _ => none
  | n + 1, P, v2, v3, v7, v8 =>
    if v7 ≤ v8 then
      ck (isB 1) <|
      some (1, P)
    else
      ck (inb v8 14) <|
      if ((P.2.2.2 (ix v8)) - 8) = v2 then
        ck (inb v8 14) <|
        f_P_promote_L102 fu n (P.1, P.2.1, P.2.2.1, (upd P.2.2.2 (ix v8) (8 + v3))) v2 v3 v7 (v8 + 1)
      else
        if ((P.2.2.2 (ix v8)) - 8) < v3 then
          f_P_promote_L102 fu n P v2 v3 v7 (v8 + 1)
        else
          if v2 ≤ ((P.2.2.2 (ix v8)) - 8) then
            f_P_promote_L102 fu n P v2 v3 v7 (v8 + 1)
          else
            ck (inb v8 14) <|
            ck (inb v8 14) <|
            f_P_promote_L102 fu n (P.1, P.2.1, P.2.2.1, (upd P.2.2.2 (ix v8) ((P.2.2.2 (ix v8)) + 1))) v2 v3 v7 (v8 + 1)
def f_P_promote (fu : Nat) (P : S_P) (a1 : Int32) : Option (Int32 × S_P) :=
  ck (inb a1 3) <|
  if (P.1 (ix a1)) = 0 then
    ck (isB 0) <|
    some (0, P)
  else
    bd (f_P_hasRoom fu P 0) fun r11 =>
    if r11 = 0 then
      ck (isB 0) <|
      some (0, P)
    else
      bd (f_P_start fu P a1) fun r21 =>
      ck (inb 0 3) <|
      ck (inb r21 14) <|
      ck (inb r21 14) <|
      ck (inb r21 14) <|
      bd (f_P_shiftUp fu P (P.1 (ix 0)) r21) fun P_59 =>
      bd (f_P_put fu P_59 (P.1 (ix 0)) (P.2.1 (ix r21)) (P.2.2.1 (ix r21)) (P.2.2.2 (ix r21))) fun P_70 =>
      ck (inb a1 3) <|
      ck (inb a1 3) <|
      ck (inb 0 3) <|
      ck (inb 0 3) <|
      bd (f_P_size fu ((upd (upd P_70.1 (ix a1) ((P_70.1 (ix a1)) - 1)) (ix 0) (((upd P_70.1 (ix a1) ((P_70.1 (ix a1)) - 1)) (ix 0)) + 1)), P_70.2)) fun r94 =>
      f_P_promote_L102 fu fu ((upd (upd P_70.1 (ix a1) ((P_70.1 (ix a1)) - 1)) (ix 0) (((upd P_70.1 (ix a1) ((P_70.1 (ix a1)) - 1)) (ix 0)) + 1)), P_70.2) r21 (P.1 (ix 0)) r94 0
def f_P_isNeeded_L7 (fu : Nat) (P : S_P) : Nat → Int32 → Int32 → Int32 → Option (Int32)
  | 0, _, _, _ => none
  | n + 1, v1, v2, v3 =>
    if v2 ≤ v3 then
      ck (isB 0) <|
      some 0
    else
      ck (inb v3 14) <|
      if (P.2.2.2 (ix v3)) = (8 + v1) then
        ck (isB 1) <|
        some 1
      else
        f_P_isNeeded_L7 fu P n v1 v2 (v3 + 1)
def f_P_isNeeded (fu : Nat) (P : S_P) (a1 : Int32) : Option (Int32) :=
  bd (f_P_size fu P) fun r1 =>
  f_P_isNeeded_L7 fu P fu a1 r1 0
def f_P_branchOf (fu : Nat) (P : S_P) (a1 : Int32) : Option (Int32) :=
  bd (f_P_start fu P 1) fun r3 =>
  if r3 ≤ a1 then
    bd (f_P_start fu P 2) fun r14 =>
    if r14 ≤ a1 then
      some 2
    else
      some 1
  else
    some 0
def f_P_remove_L78 (fu : Nat) (P : S_P) (v1 : Int32) : Option (Int32 × S_P) :=
  bd (f_P_renumber fu P (v1 + 1) (-1)) fun P_83 =>
  ck (isB 1) <|
  some (1, P_83)
def f_P_remove_L42 (fu : Nat) : Nat → S_P → Int32 → Int32 → Int32 → Option (Int32 × S_P)
  | 0, _, _, _, _ => none
  | n + 1, P, v1, v2, v3 =>
    if v2 ≤ v3 then
      f_P_remove_L78 fu P v1
    else
      ck (inb v3 14) <|
      ck (inb v3 14) <|
      ck (inb v3 14) <|
      bd (f_P_put fu P (v3 - 1) (P.2.1 (ix v3)) (P.2.2.1 (ix v3)) (P.2.2.2 (ix v3))) fun P_69 =>
      f_P_remove_L42 fu n P_69 v1 v2 (v3 + 1)
def f_P_remove (fu : Nat) (P : S_P) (a1 : Int32) : Option (Int32 × S_P) :=
  bd (f_P_size fu P) fun r1 =>
  if a1 < 0 then
    ck (isB 0) <|
    some (0, P)
  else
    if r1 ≤ a1 then
      ck (isB 0) <|
      some (0, P)
    else
      bd (f_P_isNeeded fu P a1) fun r16 =>
      if r16 = 0 then
        bd (f_P_branchOf fu P a1) fun r30 =>
        ck (inb r30 3) <|
        ck (inb r30 3) <|
        f_P_remove_L42 fu fu ((upd P.1 (ix r30) ((P.1 (ix r30)) - 1)), P.2) a1 r1 (a1 + 1)
      else
        ck (isB 0) <|
        some (0, P)
def f_H_prepareCandidate (fu : Nat) (H : S_H) (a1 : Int32) : Option (Int32 × S_H) :=
  bd (f_P_copyFrom fu H.2.1 H.1) fun P_8 =>
  if 14 ≤ a1 then
    if 16 ≤ a1 then
      ck (nz 2) <|
      ck (nz 2) <|
      if (((a1 - 14) - 2) - ((a1 - 14) - 2) / 2 * 2) = 1 then
        bd (f_P_lower fu P_8 (((a1 - 14) - 2) / 2) 1) fun (r82, P_82) =>
        ck (isB r82) <|
        some (r82, (H.1, P_82, H.2.2))
      else
        bd (f_P_lower fu P_8 (((a1 - 14) - 2) / 2) 0) fun (r82, P_82) =>
        ck (isB r82) <|
        some (r82, (H.1, P_82, H.2.2))
    else
      bd (f_P_promote fu P_8 ((a1 - 14) + 1)) fun (r52, P_52) =>
      ck (isB r52) <|
      some (r52, (H.1, P_52, H.2.2))
  else
    bd (f_P_size fu H.1) fun r25 =>
    bd (f_P_remove fu P_8 ((r25 - 1) - a1)) fun (r32, P_32) =>
    ck (isB r32) <|
    some (r32, (H.1, P_32, H.2.2))
def f_P_mayTake (fu : Nat) (P : S_P) (a1 : Int32) (a2 : Int32) : Option (Int32) :=
  if 8 ≤ a2 then
    ck (inb 0 3) <|
    if (a2 - 8) < (P.1 (ix 0)) then
      ck (isB 1) <|
      some 1
    else
      bd (f_P_start fu P a1) fun r34 =>
      if (a2 - 8) < r34 then
        ck (isB 0) <|
        some 0
      else
        bd (f_P_end fu P a1) fun r43 =>
        if r43 ≤ (a2 - 8) then
          ck (isB 0) <|
          some 0
        else
          ck (isB 1) <|
          some 1
  else
    if a2 < 0 then
      ck (isB 0) <|
      some 0
    else
      ck (isB 1) <|
      some 1
def f_O_answer (fu : Nat) (a0 : Int32) (a1 : Int32) (a2 : Int32) (a3 : Int32) : Option (Int32) :=
  if a1 = 0 then
    some 0
  else
  if a1 = 1 then
    bd (f_O_held fu a0 a2) fun r51 =>
    some r51
  else
  if a1 = 2 then
    bd (f_O_held fu a0 a2) fun r51 =>
    some r51
  else
  if a1 = 3 then
    some 0
  else
  if a1 = 4 then
    bd (f_O_held fu a0 a2) fun r40 =>
    ck (nz 8) <|
    some ((r40 + a3) - (r40 + a3) / 8 * 8)
  else
  bd (f_O_held fu a0 a2) fun r51 =>
  some r51
def f_R_thrown (fu : Nat) (R : S_R) : Option (Int32) :=
  some R.1
def f_R_fail (fu : Nat) (R : S_R) (a1 : Int32) : Option (Int32 × S_R) :=
  some (0, (a1, R.2))
def f_R_within (fu : Nat) (a0 : Int32) (a1 : Int32) (a2 : Int32) : Option (Int32) :=
  if a0 < a1 then
    ck (isB 0) <|
    some 0
  else
    if a2 < a0 then
      ck (isB 0) <|
      some 0
    else
      ck (isB 1) <|
      some 1
def f_R_many (fu : Nat) (R : S_R) : Option (Int32) :=
  ck (inb 0 3) <|
  ck (inb 1 3) <|
  ck (inb 2 3) <|
  some (((R.2.1 (ix 0)) + (R.2.1 (ix 1))) + (R.2.1 (ix 2)))
def f_R_branch (fu : Nat) (R : S_R) (a1 : Int32) : Option (Int32) :=
  ck (inb 0 3) <|
  if (R.2.1 (ix 0)) ≤ a1 then
    ck (inb 0 3) <|
    ck (inb 1 3) <|
    if ((R.2.1 (ix 0)) + (R.2.1 (ix 1))) ≤ a1 then
      some 2
    else
      some 1
  else
    some 0
def f_R_first (fu : Nat) (R : S_R) (a1 : Int32) : Option (Int32) :=
  if a1 = 0 then
    some 0
  else
    if a1 = 1 then
      ck (inb 0 3) <|
      some (R.2.1 (ix 0))
    else
      ck (inb 0 3) <|
      ck (inb 1 3) <|
      some ((R.2.1 (ix 0)) + (R.2.1 (ix 1)))
def f_R_mayStand (fu : Nat) (R : S_R) (a1 : Int32) (a2 : Int32) (a3 : Int32) : Option (Int32) :=
  if a1 < 0 then
    ck (isB 0) <|
    some 0
  else
    if a3 ≤ a1 then
      ck (isB 0) <|
      some 0
    else
      ck (inb 0 3) <|
      if a1 < (R.2.1 (ix 0)) then
        ck (isB 1) <|
        some 1
      else
        bd (f_R_branch fu R a1) fun r21 =>
        if r21 = a2 then
          ck (isB 1) <|
          some 1
        else
          ck (isB 0) <|
          some 0
def f_R_placed_L47 (fu : Nat) (R : S_R) (v1 : Int32) (v2 : Int32) (v3 : Int32) (v4 : Int32) : Option (Int32) :=
  if ((v1 >>> (((v3 - 1) - v2) &&& 31)) &&& 1) = 1 then
    bd (f_R_first fu R 2) fun r62 =>
    some (r62 + v4)
  else
    bd (f_R_first fu R 1) fun r73 =>
    some ((r73 + v2) - v4)
def f_R_placed_L20 (fu : Nat) (R : S_R) : Nat → Int32 → Int32 → Int32 → Int32 → Int32 → Option (Int32)
  | 0, _, _, _, _, _ => none
  | n + 1, v1, v2, v3, v4, v5 =>
    if v2 ≤ v5 then
      f_R_placed_L47 fu R v1 v2 v3 v4
    else
      f_R_placed_L20 fu R n v1 v2 v3 (v4 + ((v1 >>> (((v3 - 1) - v5) &&& 31)) &&& 1)) (v5 + 1)
def f_R_placed (fu : Nat) (R : S_R) (a1 : Int32) (a2 : Int32) : Option (Int32) :=
  ck (inb 1 3) <|
  ck (inb 2 3) <|
  f_R_placed_L20 fu R fu a1 a2 ((R.2.1 (ix 1)) + (R.2.1 (ix 2))) 0 0
def f_R_isOrder_L21 (fu : Nat) (R : S_R) (v2 : Int32) : Option (Int32) :=
  ck (inb 2 3) <|
  if v2 = (R.2.1 (ix 2)) then
    ck (isB 1) <|
    some 1
  else
    ck (isB 0) <|
    some 0
def f_R_isOrder_L4 (fu : Nat) (R : S_R) : Nat → Int32 → Int32 → Option (Int32)
  | 0, _, _ => none
  | n + 1, v2, v3 =>
    if v3 ≤ 0 then
      f_R_isOrder_L21 fu R v2
    else
      f_R_isOrder_L4 fu R n (v2 + (v3 &&& 1)) (v3 >>> (1 &&& 31))
def f_R_isOrder (fu : Nat) (R : S_R) (a1 : Int32) : Option (Int32) :=
  f_R_isOrder_L4 fu R fu 0 a1
def f_R_finds_L71 (fu : Nat) (R : S_R) (v1 : Int32) (v2 : Int32) (s0 : Int32) : Option (Int32 × S_R) :=
  ck (inb v1 14) <|
  if (R.2.2.1 (ix v1)) = 1 then
    ck (inb v2 3) <|
    ck (isB 0) <|
    ck (isB s0) <|
    some (s0, (R.1, R.2.1, R.2.2.1, R.2.2.2.1, R.2.2.2.2.1, R.2.2.2.2.2.1, R.2.2.2.2.2.2.1, R.2.2.2.2.2.2.2.1, R.2.2.2.2.2.2.2.2.1, R.2.2.2.2.2.2.2.2.2.1, (upd R.2.2.2.2.2.2.2.2.2.2.1 (ix v2) 0), R.2.2.2.2.2.2.2.2.2.2.2))
  else
    ck (inb v1 14) <|
    if (R.2.2.1 (ix v1)) = 0 then
      ck (inb v2 3) <|
      ck (isB 1) <|
      ck (isB s0) <|
      some (s0, (R.1, R.2.1, R.2.2.1, R.2.2.2.1, R.2.2.2.2.1, R.2.2.2.2.2.1, R.2.2.2.2.2.2.1, R.2.2.2.2.2.2.2.1, R.2.2.2.2.2.2.2.2.1, R.2.2.2.2.2.2.2.2.2.1, (upd R.2.2.2.2.2.2.2.2.2.2.1 (ix v2) 1), R.2.2.2.2.2.2.2.2.2.2.2))
    else
      ck (inb v2 3) <|
      if (R.2.2.2.2.2.2.2.2.2.2.1 (ix v2)) = 0 then
        ck (inb v2 3) <|
        ck (isB 0) <|
        ck (isB s0) <|
        some (s0, (R.1, R.2.1, R.2.2.1, R.2.2.2.1, R.2.2.2.2.1, R.2.2.2.2.2.1, R.2.2.2.2.2.2.1, R.2.2.2.2.2.2.2.1, R.2.2.2.2.2.2.2.2.1, R.2.2.2.2.2.2.2.2.2.1, (upd R.2.2.2.2.2.2.2.2.2.2.1 (ix v2) 0), R.2.2.2.2.2.2.2.2.2.2.2))
      else
        ck (inb v2 3) <|
        ck (isB 1) <|
        ck (isB s0) <|
        some (s0, (R.1, R.2.1, R.2.2.1, R.2.2.2.1, R.2.2.2.2.1, R.2.2.2.2.2.1, R.2.2.2.2.2.2.1, R.2.2.2.2.2.2.2.1, R.2.2.2.2.2.2.2.2.1, R.2.2.2.2.2.2.2.2.2.1, (upd R.2.2.2.2.2.2.2.2.2.2.1 (ix v2) 1), R.2.2.2.2.2.2.2.2.2.2.2))
def f_R_finds (fu : Nat) (R : S_R) (a1 : Int32) : Option (Int32 × S_R) :=
  ck (inb a1 14) <|
  ck (inb a1 14) <|
  if (R.2.2.1 (ix a1)) = 0 then
    ck (inb (R.2.2.2.1 (ix a1)) 3) <|
    if (R.2.2.2.2.2.2.2.2.2.2.1 (ix (R.2.2.2.1 (ix a1)))) = 0 then
      f_R_finds_L71 fu R a1 (R.2.2.2.1 (ix a1)) 1
    else
      f_R_finds_L71 fu R a1 (R.2.2.2.1 (ix a1)) 0
  else
    ck (inb (R.2.2.2.1 (ix a1)) 3) <|
    if (R.2.2.2.2.2.2.2.2.2.2.1 (ix (R.2.2.2.1 (ix a1)))) = 0 then
      f_R_finds_L71 fu R a1 (R.2.2.2.1 (ix a1)) 0
    else
      ck (inb a1 14) <|
      if (R.2.2.1 (ix a1)) = 6 then
        ck (nz 3) <|
        ck (inb (((R.2.2.2.1 (ix a1)) + 1) - ((R.2.2.2.1 (ix a1)) + 1) / 3 * 3) 3) <|
        if (R.2.2.2.2.2.2.2.2.2.2.1 (ix (((R.2.2.2.1 (ix a1)) + 1) - ((R.2.2.2.1 (ix a1)) + 1) / 3 * 3))) = 0 then
          f_R_finds_L71 fu R a1 (R.2.2.2.1 (ix a1)) 0
        else
          f_R_finds_L71 fu R a1 (R.2.2.2.1 (ix a1)) 1
      else
        f_R_finds_L71 fu R a1 (R.2.2.2.1 (ix a1)) 1
def f_R_fits_L60 (fu : Nat) : Nat → S_R → Int32 → Int32 → Int32 → Option (Int32 × S_R)
  | 0, _, _, _, _ => none
  | n + 1, R, v1, v2, v3 =>
    ck (inb 1 3) <|
    ck (inb 2 3) <|
    if ((R.2.1 (ix 1)) + (R.2.1 (ix 2))) ≤ v3 then
      ck (isB v2) <|
      some (v2, R)
    else
      bd (f_R_placed fu R v1 v3) fun r81 =>
      bd (f_R_finds fu R r81) fun (r84, R_84) =>
      if r84 = 0 then
        f_R_fits_L60 fu n R_84 v1 0 (v3 + 1)
      else
        if v2 = 0 then
          f_R_fits_L60 fu n R_84 v1 0 (v3 + 1)
        else
          f_R_fits_L60 fu n R_84 v1 1 (v3 + 1)
def f_R_fits_L24 (fu : Nat) : Nat → S_R → Int32 → Int32 → Int32 → Option (Int32 × S_R)
  | 0, _, _, _, _ => none
  | n + 1, R, v1, v2, v3 =>
    ck (inb 0 3) <|
    if (R.2.1 (ix 0)) ≤ v3 then
      f_R_fits_L60 fu fu R v1 v2 0
    else
      bd (f_R_finds fu R v3) fun (r36, R_36) =>
      if r36 = 0 then
        f_R_fits_L24 fu n R_36 v1 0 (v3 + 1)
      else
        if v2 = 0 then
          f_R_fits_L24 fu n R_36 v1 0 (v3 + 1)
        else
          f_R_fits_L24 fu n R_36 v1 1 (v3 + 1)
def f_R_fits_L2 (fu : Nat) : Nat → S_R → Int32 → Int32 → Option (Int32 × S_R)
  | 0, _, _, _ => none
  | n + 1, R, v1, v2 =>
    if 3 ≤ v2 then
      f_R_fits_L24 fu fu R v1 1 0
    else
      ck (inb v2 3) <|
      ck (isB 0) <|
      f_R_fits_L2 fu n (R.1, R.2.1, R.2.2.1, R.2.2.2.1, R.2.2.2.2.1, R.2.2.2.2.2.1, R.2.2.2.2.2.2.1, R.2.2.2.2.2.2.2.1, R.2.2.2.2.2.2.2.2.1, R.2.2.2.2.2.2.2.2.2.1, (upd R.2.2.2.2.2.2.2.2.2.2.1 (ix v2) 0), R.2.2.2.2.2.2.2.2.2.2.2) v1 (v2 + 1)
def f_R_fits (fu : Nat) (R : S_R) (a1 : Int32) : Option (Int32 × S_R) :=
  f_R_fits_L2 fu fu R a1 0
def f_R_valid_L79 (fu : Nat) : Nat → S_R → Int32 → Int32 → Int32 → Option (Int32 × S_R)
  | 0, _, _, _, _ => none
  | n + 1, R, v1, v2, v3 =>
    if v2 ≤ v3 then
      ck (isB v1) <|
      some (v1, R)
    else
      if v1 = 0 then
        ck (isB v1) <|
        some (v1, R)
      else
        bd (f_R_isOrder fu R v3) fun r90 =>
        if r90 = 0 then
          f_R_valid_L79 fu n R 1 v2 (v3 + 1)
        else
          bd (f_R_fits fu R v3) fun (r98, R_98) =>
          if r98 = 0 then
            f_R_valid_L79 fu n R_98 0 v2 (v3 + 1)
          else
            f_R_valid_L79 fu n R_98 1 v2 (v3 + 1)
def f_R_valid_L61 (fu : Nat) (R : S_R) (v1 : Int32) : Option (Int32 × S_R) :=
  ck (inb 1 3) <|
  ck (inb 2 3) <|
  f_R_valid_L79 fu fu R v1 (1 <<< (((R.2.1 (ix 1)) + (R.2.1 (ix 2))) &&& 31)) 0
def f_R_valid_L4 (fu : Nat) : Nat → S_R → Int32 → Int32 → Option (Int32 × S_R)
  | 0, _, _, _ => none
  | n + 1, R, v1, v2 =>
    bd (f_R_many fu R) fun r6 =>
    if r6 ≤ v2 then
      f_R_valid_L61 fu R v1
    else
      if v1 = 0 then
        f_R_valid_L4 fu n R 0 (v2 + 1)
      else
        ck (inb v2 14) <|
        if (R.2.2.2.2.1 (ix v2)) < 8 then
          f_R_valid_L4 fu n R 1 (v2 + 1)
        else
          ck (inb v2 14) <|
          bd (f_R_branch fu R v2) fun r39 =>
          bd (f_R_mayStand fu R ((R.2.2.2.2.1 (ix v2)) - 8) r39 v2) fun r43 =>
          if r43 = 0 then
            f_R_valid_L4 fu n R 0 (v2 + 1)
          else
            f_R_valid_L4 fu n R 1 (v2 + 1)
def f_R_valid (fu : Nat) (R : S_R) : Option (Int32 × S_R) :=
  f_R_valid_L4 fu fu R 1 0
def f_R_keep_L27 (fu : Nat) : Nat → S_R → Int32 → Option (S_R)
  | 0, _, _ => none
  | n + 1, R, v1 =>
    if 14 ≤ v1 then
      some R
    else
      ck (inb v1 14) <|
      ck (inb (3 * v1) 42) <|
      ck (inb v1 14) <|
      ck (inb ((3 * v1) + 1) 42) <|
      ck (inb v1 14) <|
      ck (inb ((3 * v1) + 2) 42) <|
      f_R_keep_L27 fu n (R.1, R.2.1, R.2.2.1, R.2.2.2.1, R.2.2.2.2.1, R.2.2.2.2.2.1, (upd (upd (upd R.2.2.2.2.2.2.1 (ix (3 * v1)) (R.2.2.1 (ix v1))) (ix ((3 * v1) + 1)) (R.2.2.2.1 (ix v1))) (ix ((3 * v1) + 2)) (R.2.2.2.2.1 (ix v1))), R.2.2.2.2.2.2.2) (v1 + 1)
def f_R_keep_L2 (fu : Nat) : Nat → S_R → Int32 → Option (S_R)
  | 0, _, _ => none
  | n + 1, R, v1 =>
    if 3 ≤ v1 then
      f_R_keep_L27 fu fu R 0
    else
      ck (inb v1 3) <|
      ck (inb v1 3) <|
      f_R_keep_L2 fu n (R.1, R.2.1, R.2.2.1, R.2.2.2.1, R.2.2.2.2.1, (upd R.2.2.2.2.2.1 (ix v1) (R.2.1 (ix v1))), R.2.2.2.2.2.2) (v1 + 1)
def f_R_keep (fu : Nat) (R : S_R) : Option (S_R) :=
  f_R_keep_L2 fu fu R 0
def f_R_putBack_L27 (fu : Nat) : Nat → S_R → Int32 → Option (S_R)
  | 0, _, _ => none
  | n + 1, R, v1 =>
    if 14 ≤ v1 then
      some R
    else
      ck (inb (3 * v1) 42) <|
      ck (inb v1 14) <|
      ck (inb ((3 * v1) + 1) 42) <|
      ck (inb v1 14) <|
      ck (inb ((3 * v1) + 2) 42) <|
      ck (inb v1 14) <|
      f_R_putBack_L27 fu n (R.1, R.2.1, (upd R.2.2.1 (ix v1) (R.2.2.2.2.2.2.1 (ix (3 * v1)))), (upd R.2.2.2.1 (ix v1) (R.2.2.2.2.2.2.1 (ix ((3 * v1) + 1)))), (upd R.2.2.2.2.1 (ix v1) (R.2.2.2.2.2.2.1 (ix ((3 * v1) + 2)))), R.2.2.2.2.2) (v1 + 1)
def f_R_putBack_L2 (fu : Nat) : Nat → S_R → Int32 → Option (S_R)
  | 0, _, _ => none
  | n + 1, R, v1 =>
    if 3 ≤ v1 then
      f_R_putBack_L27 fu fu R 0
    else
      ck (inb v1 3) <|
      ck (inb v1 3) <|
      f_R_putBack_L2 fu n (R.1, (upd R.2.1 (ix v1) (R.2.2.2.2.2.1 (ix v1))), R.2.2) (v1 + 1)
def f_R_putBack (fu : Nat) (R : S_R) : Option (S_R) :=
  f_R_putBack_L2 fu fu R 0
def f_R_copy (fu : Nat) (R : S_R) (a1 : Int32) (a2 : Int32) : Option (S_R) :=
  ck (inb a1 14) <|
  ck (inb a2 14) <|
  ck (inb a1 14) <|
  ck (inb a2 14) <|
  ck (inb a1 14) <|
  ck (inb a2 14) <|
  some ((R.1, R.2.1, (upd R.2.2.1 (ix a2) (R.2.2.1 (ix a1))), (upd R.2.2.2.1 (ix a2) (R.2.2.2.1 (ix a1))), (upd R.2.2.2.2.1 (ix a2) (R.2.2.2.2.1 (ix a1))), R.2.2.2.2.2))
def f_R_insert_L104 (fu : Nat) (R : S_R) (v2 : Int32) (v3 : Int32) (v4 : Int32) (v5 : Int32) : Option (Int32 × S_R) :=
  ck (inb v5 14) <|
  ck (inb v5 14) <|
  ck (inb v5 14) <|
  some (v5, (R.1, R.2.1, (upd R.2.2.1 (ix v5) v2), (upd R.2.2.2.1 (ix v5) v3), (upd R.2.2.2.2.1 (ix v5) v4), R.2.2.2.2.2))
def f_R_insert_L59 (fu : Nat) : Nat → S_R → Int32 → Int32 → Int32 → Int32 → Int32 → Option (Int32 × S_R)
  | 0, _, _, _, _, _, _ => none
  | n + 1, R, v2, v3, v4, v5, v6 =>
    bd (f_R_many fu R) fun r62 =>
    if r62 ≤ v6 then
      f_R_insert_L104 fu R v2 v3 v4 v5
    else
      ck (inb v6 14) <|
      ck (inb v6 14) <|
      if (R.2.2.2.2.1 (ix v6)) < (8 + v5) then
        ck (inb v6 14) <|
        f_R_insert_L59 fu n (R.1, R.2.1, R.2.2.1, R.2.2.2.1, (upd R.2.2.2.2.1 (ix v6) ((R.2.2.2.2.1 (ix v6)) + 0)), R.2.2.2.2.2) v2 v3 v4 v5 (v6 + 1)
      else
        ck (inb v6 14) <|
        f_R_insert_L59 fu n (R.1, R.2.1, R.2.2.1, R.2.2.2.1, (upd R.2.2.2.2.1 (ix v6) ((R.2.2.2.2.1 (ix v6)) + 1)), R.2.2.2.2.2) v2 v3 v4 v5 (v6 + 1)
def f_R_insert_L43 (fu : Nat) (R : S_R) (v1 : Int32) (v2 : Int32) (v3 : Int32) (v4 : Int32) (v5 : Int32) : Option (Int32 × S_R) :=
  ck (inb v1 3) <|
  ck (inb v1 3) <|
  f_R_insert_L59 fu fu (R.1, (upd R.2.1 (ix v1) ((R.2.1 (ix v1)) + 1)), R.2.2) v2 v3 v4 v5 (v5 + 1)
def f_R_insert_L20 (fu : Nat) : Nat → S_R → Int32 → Int32 → Int32 → Int32 → Int32 → Int32 → Option (Int32 × S_R)
  | 0, _, _, _, _, _, _, _ => none
  | n + 1, R, v1, v2, v3, v4, v5, v6 =>
    if v6 ≤ v5 then
      f_R_insert_L43 fu R v1 v2 v3 v4 v5
    else
      bd (f_R_copy fu R (v6 - 1) v6) fun R_34 =>
      f_R_insert_L20 fu n R_34 v1 v2 v3 v4 v5 (v6 + (-1))
def f_R_insert (fu : Nat) (R : S_R) (a1 : Int32) (a2 : Int32) (a3 : Int32) (a4 : Int32) : Option (Int32 × S_R) :=
  bd (f_R_first fu R a1) fun r2 =>
  ck (inb a1 3) <|
  bd (f_R_many fu R) fun r15 =>
  f_R_insert_L20 fu fu R a1 a2 a3 a4 (r2 + (R.2.1 (ix a1))) r15
def f_R_leaveOut_L81 (fu : Nat) : Nat → S_R → Int32 → Int32 → Int32 → Option (Int32 × S_R)
  | 0, _, _, _, _ => none
  | n + 1, R, v1, v2, v3 =>
    bd (f_R_many fu R) fun r83 =>
    if r83 ≤ v3 then
      ck (isB v2) <|
      some (v2, R)
    else
      ck (inb v3 14) <|
      ck (inb v3 14) <|
      if (R.2.2.2.2.1 (ix v3)) ≤ (8 + v1) then
        ck (inb v3 14) <|
        f_R_leaveOut_L81 fu n (R.1, R.2.1, R.2.2.1, R.2.2.2.1, (upd R.2.2.2.2.1 (ix v3) ((R.2.2.2.2.1 (ix v3)) - 0)), R.2.2.2.2.2) v1 v2 (v3 + 1)
      else
        ck (inb v3 14) <|
        f_R_leaveOut_L81 fu n (R.1, R.2.1, R.2.2.1, R.2.2.2.1, (upd R.2.2.2.2.1 (ix v3) ((R.2.2.2.2.1 (ix v3)) - 1)), R.2.2.2.2.2) v1 v2 (v3 + 1)
def f_R_leaveOut_L57 (fu : Nat) : Nat → S_R → Int32 → Int32 → Int32 → Option (Int32 × S_R)
  | 0, _, _, _, _ => none
  | n + 1, R, v1, v2, v3 =>
    bd (f_R_many fu R) fun r59 =>
    if r59 ≤ v3 then
      f_R_leaveOut_L81 fu fu R v1 v2 0
    else
      bd (f_R_copy fu R (v3 + 1) v3) fun R_70 =>
      f_R_leaveOut_L57 fu n R_70 v1 v2 (v3 + 1)
def f_R_leaveOut_L41 (fu : Nat) (R : S_R) (v1 : Int32) (v2 : Int32) : Option (Int32 × S_R) :=
  bd (f_R_branch fu R v1) fun r47 =>
  ck (inb r47 3) <|
  ck (inb r47 3) <|
  f_R_leaveOut_L57 fu fu (R.1, (upd R.2.1 (ix r47) ((R.2.1 (ix r47)) - 1)), R.2.2) v1 v2 v1
def f_R_leaveOut_L4 (fu : Nat) : Nat → S_R → Int32 → Int32 → Int32 → Option (Int32 × S_R)
  | 0, _, _, _, _ => none
  | n + 1, R, v1, v2, v3 =>
    bd (f_R_many fu R) fun r6 =>
    if r6 ≤ v3 then
      f_R_leaveOut_L41 fu R v1 v2
    else
      if v2 = 0 then
        f_R_leaveOut_L4 fu n R v1 0 (v3 + 1)
      else
        ck (inb v3 14) <|
        if (R.2.2.2.2.1 (ix v3)) = (8 + v1) then
          f_R_leaveOut_L4 fu n R v1 0 (v3 + 1)
        else
          f_R_leaveOut_L4 fu n R v1 1 (v3 + 1)
def f_R_leaveOut (fu : Nat) (R : S_R) (a1 : Int32) : Option (Int32 × S_R) :=
  f_R_leaveOut_L4 fu fu R a1 1 0
def f_R_raise_L109 (fu : Nat) : Nat → S_R → Int32 → Int32 → Int32 → Option (S_R)
  | 0, _, _, _, _ => none
  | n + 1, R, v2, v3, v7 =>
    bd (f_R_many fu R) fun r112 =>
    if r112 ≤ v7 then
      some R
    else
      ck (inb v7 14) <|
      if ((R.2.2.2.2.1 (ix v7)) - 8) = v2 then
        ck (inb v7 14) <|
        f_R_raise_L109 fu n (R.1, R.2.1, R.2.2.1, R.2.2.2.1, (upd R.2.2.2.2.1 (ix v7) (8 + v3)), R.2.2.2.2.2) v2 v3 (v7 + 1)
      else
        if ((R.2.2.2.2.1 (ix v7)) - 8) < v3 then
          ck (inb v7 14) <|
          ck (inb v7 14) <|
          f_R_raise_L109 fu n (R.1, R.2.1, R.2.2.1, R.2.2.2.1, (upd R.2.2.2.2.1 (ix v7) (R.2.2.2.2.1 (ix v7))), R.2.2.2.2.2) v2 v3 (v7 + 1)
        else
          if v2 ≤ ((R.2.2.2.2.1 (ix v7)) - 8) then
            ck (inb v7 14) <|
            ck (inb v7 14) <|
            f_R_raise_L109 fu n (R.1, R.2.1, R.2.2.1, R.2.2.2.1, (upd R.2.2.2.2.1 (ix v7) (R.2.2.2.2.1 (ix v7))), R.2.2.2.2.2) v2 v3 (v7 + 1)
          else
            ck (inb v7 14) <|
            ck (inb v7 14) <|
            f_R_raise_L109 fu n (R.1, R.2.1, R.2.2.1, R.2.2.2.1, (upd R.2.2.2.2.1 (ix v7) ((R.2.2.2.2.1 (ix v7)) + 1)), R.2.2.2.2.2) v2 v3 (v7 + 1)
def f_R_raise_L62 (fu : Nat) (R : S_R) (v1 : Int32) (v2 : Int32) (v3 : Int32) (v4 : Int32) (v5 : Int32) (v6 : Int32) : Option (S_R) :=
  ck (inb v3 14) <|
  ck (inb v3 14) <|
  ck (inb v3 14) <|
  ck (inb 0 3) <|
  ck (inb 0 3) <|
  ck (inb v1 3) <|
  ck (inb v1 3) <|
  f_R_raise_L109 fu fu (R.1, (upd (upd R.2.1 (ix 0) ((R.2.1 (ix 0)) + 1)) (ix v1) (((upd R.2.1 (ix 0) ((R.2.1 (ix 0)) + 1)) (ix v1)) - 1)), (upd R.2.2.1 (ix v3) v4), (upd R.2.2.2.1 (ix v3) v5), (upd R.2.2.2.2.1 (ix v3) v6), R.2.2.2.2.2) v2 v3 0
def f_R_raise_L40 (fu : Nat) : Nat → S_R → Int32 → Int32 → Int32 → Int32 → Int32 → Int32 → Int32 → Option (S_R)
  | 0, _, _, _, _, _, _, _, _ => none
  | n + 1, R, v1, v2, v3, v4, v5, v6, v7 =>
    if v7 ≤ v3 then
      f_R_raise_L62 fu R v1 v2 v3 v4 v5 v6
    else
      bd (f_R_copy fu R (v7 - 1) v7) fun R_53 =>
      f_R_raise_L40 fu n R_53 v1 v2 v3 v4 v5 v6 (v7 + (-1))
def f_R_raise (fu : Nat) (R : S_R) (a1 : Int32) : Option (S_R) :=
  bd (f_R_first fu R a1) fun r2 =>
  ck (inb 0 3) <|
  ck (inb r2 14) <|
  ck (inb r2 14) <|
  ck (inb r2 14) <|
  f_R_raise_L40 fu fu R a1 r2 (R.2.1 (ix 0)) (R.2.2.1 (ix r2)) (R.2.2.2.1 (ix r2)) (R.2.2.2.2.1 (ix r2)) r2
def f_R_add_L98 (fu : Nat) (R : S_R) (v1 : Int32) (v2 : Int32) (v3 : Int32) (v4 : Int32) (s0 : Int32) (s1 : Int32) : Option (Int32 × S_R) :=
  if s0 = s1 then
    bd (f_R_fail fu R 2) fun (r103, R_103) =>
    some (r103, R_103)
  else
    bd (f_R_keep fu R) fun R_108 =>
    bd (f_R_insert fu R_108 v1 v2 v3 v4) fun (r117, R_117) =>
    bd (f_R_valid fu R_117) fun (r123, R_123) =>
    if r123 = 0 then
      bd (f_R_putBack fu R_123) fun R_130 =>
      bd (f_R_fail fu R_130 3) fun (r135, R_135) =>
      some (r135, R_135)
    else
      ck (isB 0) <|
      some (r117, (R_123.1, R_123.2.1, R_123.2.2.1, R_123.2.2.2.1, R_123.2.2.2.2.1, R_123.2.2.2.2.2.1, R_123.2.2.2.2.2.2.1, R_123.2.2.2.2.2.2.2.1, R_123.2.2.2.2.2.2.2.2.1, R_123.2.2.2.2.2.2.2.2.2.1, R_123.2.2.2.2.2.2.2.2.2.2.1, R_123.2.2.2.2.2.2.2.2.2.2.2.1, R_123.2.2.2.2.2.2.2.2.2.2.2.2.1, 0, R_123.2.2.2.2.2.2.2.2.2.2.2.2.2.2))
def f_R_add (fu : Nat) (R : S_R) (a1 : Int32) (a2 : Int32) (a3 : Int32) (a4 : Int32) : Option (Int32 × S_R) :=
  bd (f_R_within fu a1 0 2) fun r8 =>
  if r8 = 0 then
    bd (f_R_fail fu (0, R.2) 1) fun (r40, R_40) =>
    some (r40, R_40)
  else
    bd (f_R_within fu a2 0 6) fun r18 =>
    if r18 = 0 then
      bd (f_R_fail fu (0, R.2) 1) fun (r40, R_40) =>
      some (r40, R_40)
    else
      bd (f_R_within fu a3 0 2) fun r27 =>
      if r27 = 0 then
        bd (f_R_fail fu (0, R.2) 1) fun (r40, R_40) =>
        some (r40, R_40)
      else
        if 0 ≤ a4 then
          if a4 ≤ 7 then
            ck (inb a1 3) <|
            if a1 = 0 then
              f_R_add_L98 fu (0, R.2) a1 a2 a3 a4 (R.2.1 (ix a1)) 6
            else
              f_R_add_L98 fu (0, R.2) a1 a2 a3 a4 (R.2.1 (ix a1)) 4
          else
            bd (f_R_first fu (0, R.2) a1) fun r60 =>
            ck (inb a1 3) <|
            bd (f_R_mayStand fu (0, R.2) (a4 - 8) a1 (r60 + (R.2.1 (ix a1)))) fun r70 =>
            if r70 = 0 then
              bd (f_R_fail fu (0, R.2) 1) fun (r78, R_78) =>
              some (r78, R_78)
            else
              ck (inb a1 3) <|
              if a1 = 0 then
                f_R_add_L98 fu (0, R.2) a1 a2 a3 a4 (R.2.1 (ix a1)) 6
              else
                f_R_add_L98 fu (0, R.2) a1 a2 a3 a4 (R.2.1 (ix a1)) 4
        else
          bd (f_R_fail fu (0, R.2) 1) fun (r40, R_40) =>
          some (r40, R_40)
def f_R_clear_L30 (fu : Nat) (R : S_R) (v1 : Int32) : Option (Int32 × S_R) :=
  ck (isB 0) <|
  some (v1, (R.1, R.2.1, R.2.2.1, R.2.2.2.1, R.2.2.2.2.1, R.2.2.2.2.2.1, R.2.2.2.2.2.2.1, R.2.2.2.2.2.2.2.1, R.2.2.2.2.2.2.2.2.1, R.2.2.2.2.2.2.2.2.2.1, R.2.2.2.2.2.2.2.2.2.2.1, R.2.2.2.2.2.2.2.2.2.2.2.1, R.2.2.2.2.2.2.2.2.2.2.2.2.1, 0, R.2.2.2.2.2.2.2.2.2.2.2.2.2.2))
def f_R_clear_L12 (fu : Nat) : Nat → S_R → Int32 → Int32 → Option (Int32 × S_R)
  | 0, _, _, _ => none
  | n + 1, R, v1, v2 =>
    if 3 ≤ v2 then
      f_R_clear_L30 fu R v1
    else
      ck (inb v2 3) <|
      f_R_clear_L12 fu n (R.1, (upd R.2.1 (ix v2) 0), R.2.2) v1 (v2 + 1)
def f_R_clear (fu : Nat) (R : S_R) : Option (Int32 × S_R) :=
  bd (f_R_many fu (0, R.2)) fun r6 =>
  f_R_clear_L12 fu fu (0, R.2) r6 0
def f_R_drawn (fu : Nat) (R : S_R) (a1 : Int32) : Option (Int32 × S_R) :=
  ck (nzL a1.toInt64) <|
  some ((((((R.2.2.2.2.2.2.2.2.1 * 6364136223846793005) + 1442695040888963407).toUInt64 >>> ((33 : Int32).toInt64.toUInt64 &&& Int64.toUInt64 63)).toInt64) - ((((R.2.2.2.2.2.2.2.2.1 * 6364136223846793005) + 1442695040888963407).toUInt64 >>> ((33 : Int32).toInt64.toUInt64 &&& Int64.toUInt64 63)).toInt64) / a1.toInt64 * a1.toInt64).toInt32, (R.1, R.2.1, R.2.2.1, R.2.2.2.1, R.2.2.2.2.1, R.2.2.2.2.2.1, R.2.2.2.2.2.2.1, R.2.2.2.2.2.2.2.1, (R.2.2.2.2.2.2.2.2.1 * 6364136223846793005) + 1442695040888963407, R.2.2.2.2.2.2.2.2.2))
def f_R_before_L6 (fu : Nat) (R : S_R) : Nat → Int32 → Int32 → Int32 → Int32 → Int32 → Option (Int32)
  | 0, _, _, _, _, _ => none
  | n + 1, v1, v2, v3, v4, v5 =>
    if v1 ≤ v5 then
      some v4
    else
      bd (f_R_mayStand fu R v5 v2 v3) fun r19 =>
      if r19 = 0 then
        f_R_before_L6 fu R n v1 v2 v3 (v4 + 0) (v5 + 1)
      else
        f_R_before_L6 fu R n v1 v2 v3 (v4 + 1) (v5 + 1)
def f_R_before (fu : Nat) (R : S_R) (a1 : Int32) (a2 : Int32) (a3 : Int32) : Option (Int32) :=
  f_R_before_L6 fu R fu a1 a2 a3 0 0
def f_R_tried_L191 (fu : Nat) (k4 : S_R → Int32 → Int32 → Int32 → Option (S_R)) (R : S_R) (v1 : Int32) (v3 : Int32) (v4 : Int32) (v5 : Int32) (v9 : Int32) : Option (S_R) :=
  bd (f_R_keep fu R) fun R_192 =>
  bd (f_R_insert fu R_192 v1 v4 v5 v9) fun (r203, R_203) =>
  bd (f_R_valid fu R_203) fun (r208, R_208) =>
  if r208 = 0 then
    bd (f_R_putBack fu R_208) fun R_217 =>
    k4 R_217 v1 r208 (v3 + 1)
  else
    k4 R_208 v1 r208 (v3 + 1)
def f_R_tried_L142 (fu : Nat) (k4 : S_R → Int32 → Int32 → Int32 → Option (S_R)) : Nat → S_R → Int32 → Int32 → Int32 → Int32 → Int32 → Int32 → Int32 → Int32 → Option (S_R)
  | 0, _, _, _, _, _, _, _, _, _ => none
  | n + 1, R, v1, v3, v4, v5, v7, v9, v10, v11 =>
    if v11 < 0 then
      f_R_tried_L191 fu k4 R v1 v3 v4 v5 v9
    else
      bd (f_R_mayStand fu R v11 v1 v7) fun r153 =>
      if r153 = 0 then
        f_R_tried_L142 fu k4 n R v1 v3 v4 v5 v7 v9 v10 (v11 + (-1))
      else
        bd (f_R_before fu R v11 v1 v7) fun r165 =>
        if r165 = v10 then
          f_R_tried_L142 fu k4 n R v1 v3 v4 v5 v7 (8 + v11) v10 (v11 + (-1))
        else
          f_R_tried_L142 fu k4 n R v1 v3 v4 v5 v7 v9 v10 (v11 + (-1))
def f_R_tried_L117 (fu : Nat) (k4 : S_R → Int32 → Int32 → Int32 → Option (S_R)) (R : S_R) (v1 : Int32) (v3 : Int32) (v4 : Int32) (v5 : Int32) (v6 : Int32) (v7 : Int32) (v8 : Int32) (s1 : Int32) : Option (S_R) :=
  bd (f_R_drawn fu R s1) fun (r117, R_117) =>
  if v6 = 0 then
    f_R_tried_L191 fu k4 R_117 v1 v3 v4 v5 r117
  else
    if v8 ≤ 0 then
      f_R_tried_L191 fu k4 R_117 v1 v3 v4 v5 r117
    else
      f_R_tried_L142 fu k4 fu R_117 v1 v3 v4 v5 v7 r117 r117 (v7 - 1)
def f_R_tried_L99 (fu : Nat) (k4 : S_R → Int32 → Int32 → Int32 → Option (S_R)) (R : S_R) (v1 : Int32) (v3 : Int32) (v4 : Int32) (v5 : Int32) (v6 : Int32) (v7 : Int32) (v8 : Int32) : Option (S_R) :=
  if v6 = 0 then
    f_R_tried_L117 fu k4 R v1 v3 v4 v5 v6 v7 v8 8
  else
    if v8 ≤ 0 then
      f_R_tried_L117 fu k4 R v1 v3 v4 v5 v6 v7 v8 8
    else
      f_R_tried_L117 fu k4 R v1 v3 v4 v5 v6 v7 v8 v8
def f_R_tried_L64 (fu : Nat) (k4 : S_R → Int32 → Int32 → Int32 → Option (S_R)) : Nat → S_R → Int32 → Int32 → Int32 → Int32 → Int32 → Int32 → Int32 → Int32 → Option (S_R)
  | 0, _, _, _, _, _, _, _, _, _ => none
  | n + 1, R, v1, v3, v4, v5, v6, v7, v8, v9 =>
    if v7 ≤ v9 then
      f_R_tried_L99 fu k4 R v1 v3 v4 v5 v6 v7 v8
    else
      bd (f_R_mayStand fu R v9 v1 v7) fun r79 =>
      if r79 = 0 then
        f_R_tried_L64 fu k4 n R v1 v3 v4 v5 v6 v7 (v8 + 0) (v9 + 1)
      else
        f_R_tried_L64 fu k4 n R v1 v3 v4 v5 v6 v7 (v8 + 1) (v9 + 1)
def f_R_tried_L42 (fu : Nat) (k4 : S_R → Int32 → Int32 → Int32 → Option (S_R)) (R : S_R) (v1 : Int32) (v3 : Int32) (v4 : Int32) (v5 : Int32) (s0 : Int32) : Option (S_R) :=
  bd (f_R_first fu R v1) fun r46 =>
  ck (inb v1 3) <|
  f_R_tried_L64 fu k4 fu R v1 v3 v4 v5 s0 (r46 + (R.2.1 (ix v1))) 0 0
def f_R_tried_L4 (fu : Nat) : Nat → S_R → Int32 → Int32 → Int32 → Option (S_R)
  | 0, _, _, _, _ => none
  | n + 1, R, v1, v2, v3 =>
    if 20 ≤ v3 then
      some R
    else
      if v2 = 0 then
        bd (f_R_drawn fu R 7) fun (r17, R_17) =>
        bd (f_R_drawn fu R_17 3) fun (r24, R_24) =>
        bd (f_R_drawn fu R_24 4) fun (r31, R_31) =>
        if r31 = 0 then
          f_R_tried_L42 fu (f_R_tried_L4 fu n) R_31 v1 v3 r17 r24 1
        else
          f_R_tried_L42 fu (f_R_tried_L4 fu n) R_31 v1 v3 r17 r24 0
      else
        some R
def f_R_tried (fu : Nat) (R : S_R) (a1 : Int32) : Option (S_R) :=
  f_R_tried_L4 fu fu R a1 0 0
def f_R_make_L95 (fu : Nat) : Nat → S_R → Int32 → Int32 → Option (Int32 × S_R)
  | 0, _, _, _ => none
  | n + 1, R, v5, v6 =>
    if v5 ≤ v6 then
      bd (f_R_many fu R) fun r114 =>
      some (r114, R)
    else
      bd (f_R_tried fu R 2) fun R_104 =>
      f_R_make_L95 fu n R_104 v5 (v6 + 1)
def f_R_make_L74 (fu : Nat) : Nat → S_R → Int32 → Int32 → Int32 → Option (Int32 × S_R)
  | 0, _, _, _, _ => none
  | n + 1, R, v4, v5, v6 =>
    if v4 ≤ v6 then
      f_R_make_L95 fu fu R v5 0
    else
      bd (f_R_tried fu R 1) fun R_83 =>
      f_R_make_L74 fu n R_83 v4 v5 (v6 + 1)
def f_R_make_L54 (fu : Nat) : Nat → S_R → Int32 → Int32 → Int32 → Int32 → Option (Int32 × S_R)
  | 0, _, _, _, _, _ => none
  | n + 1, R, v3, v4, v5, v6 =>
    if v3 ≤ v6 then
      f_R_make_L74 fu fu R v4 v5 0
    else
      bd (f_R_tried fu R 0) fun R_62 =>
      f_R_make_L54 fu n R_62 v3 v4 v5 (v6 + 1)
def f_R_make (fu : Nat) (R : S_R) (a1 : Int64) (a3 : Int32) (a4 : Int32) (a5 : Int32) : Option (Int32 × S_R) :=
  bd (f_R_within fu a3 0 6) fun r9 =>
  if r9 = 0 then
    bd (f_R_fail fu (0, R.2) 1) fun (r37, R_37) =>
    some (r37, R_37)
  else
    bd (f_R_within fu a4 0 4) fun r19 =>
    if r19 = 0 then
      bd (f_R_fail fu (0, R.2) 1) fun (r37, R_37) =>
      some (r37, R_37)
    else
      bd (f_R_within fu a5 0 4) fun r29 =>
      if r29 = 0 then
        bd (f_R_fail fu (0, R.2) 1) fun (r37, R_37) =>
        some (r37, R_37)
      else
        bd (f_R_clear fu (0, R.2)) fun (r42, R_42) =>
        f_R_make_L54 fu fu (R_42.1, R_42.2.1, R_42.2.2.1, R_42.2.2.2.1, R_42.2.2.2.2.1, R_42.2.2.2.2.2.1, R_42.2.2.2.2.2.2.1, R_42.2.2.2.2.2.2.2.1, a1, R_42.2.2.2.2.2.2.2.2.2) a3 a4 a5 0
def f_R_flaws (fu : Nat) (R : S_R) (a1 : Int32) : Option (Int32 × S_R) :=
  bd (f_R_within fu a1 0 15) fun r9 =>
  if r9 = 0 then
    bd (f_R_fail fu (0, R.2) 1) fun (r17, R_17) =>
    some (r17, R_17)
  else
    some (R.2.2.2.2.2.2.2.1, (0, R.2.1, R.2.2.1, R.2.2.2.1, R.2.2.2.2.1, R.2.2.2.2.2.1, R.2.2.2.2.2.2.1, a1, R.2.2.2.2.2.2.2.2))
def f_R_twoParts_L38 (fu : Nat) (R : S_R) (v1 : Int32) : Option (Int32) :=
  ck (inb v1 14) <|
  if (R.2.2.1 (ix v1)) = 6 then
    if (R.2.2.2.2.2.2.2.1 &&& 4) = 0 then
      ck (isB 0) <|
      some 0
    else
      ck (isB 1) <|
      some 1
  else
    ck (isB 0) <|
    some 0
def f_R_twoParts_L19 (fu : Nat) (R : S_R) (v1 : Int32) : Option (Int32) :=
  ck (inb v1 14) <|
  if (R.2.2.1 (ix v1)) = 5 then
    if (R.2.2.2.2.2.2.2.1 &&& 2) = 0 then
      f_R_twoParts_L38 fu R v1
    else
      ck (isB 1) <|
      some 1
  else
    f_R_twoParts_L38 fu R v1
def f_R_twoParts (fu : Nat) (R : S_R) (a1 : Int32) : Option (Int32) :=
  ck (inb a1 14) <|
  if (R.2.2.1 (ix a1)) = 4 then
    if (R.2.2.2.2.2.2.2.1 &&& 1) = 0 then
      f_R_twoParts_L19 fu R a1
    else
      ck (isB 1) <|
      some 1
  else
    f_R_twoParts_L19 fu R a1
def f_R_isLate (fu : Nat) (R : S_R) (a1 : Int32) : Option (Int32) :=
  ck (inb a1 14) <|
  if (R.2.2.1 (ix a1)) = 3 then
    if (R.2.2.2.2.2.2.2.1 &&& 8) = 0 then
      ck (isB 0) <|
      some 0
    else
      ck (isB 1) <|
      some 1
  else
    ck (isB 0) <|
    some 0
def f_R_source (fu : Nat) (R : S_R) (a1 : Int32) : Option (Int32) :=
  ck (inb a1 14) <|
  if (R.2.2.1 (ix a1)) = 6 then
    ck (inb a1 14) <|
    ck (nz 3) <|
    some (((R.2.2.2.1 (ix a1)) + 1) - ((R.2.2.2.1 (ix a1)) + 1) / 3 * 3)
  else
    ck (inb a1 14) <|
    some (R.2.2.2.1 (ix a1))
def f_R_does_L236 (fu : Nat) (R : S_R) (v1 : Int32) (v2 : Int32) (v4 : Int32) : Option (S_R) :=
  ck (inb v1 14) <|
  if (R.2.2.1 (ix v1)) = 6 then
    ck (inb v2 3) <|
    some ((R.1, R.2.1, R.2.2.1, R.2.2.2.1, R.2.2.2.2.1, R.2.2.2.2.2.1, R.2.2.2.2.2.2.1, R.2.2.2.2.2.2.2.1, R.2.2.2.2.2.2.2.2.1, R.2.2.2.2.2.2.2.2.2.1, R.2.2.2.2.2.2.2.2.2.2.1, (upd R.2.2.2.2.2.2.2.2.2.2.2.1 (ix v2) v4), R.2.2.2.2.2.2.2.2.2.2.2.2))
  else
    some R
def f_R_does_L213 (fu : Nat) (R : S_R) (v1 : Int32) (v2 : Int32) (v3 : Int32) (v4 : Int32) : Option (S_R) :=
  ck (inb v1 14) <|
  if (R.2.2.1 (ix v1)) = 4 then
    ck (nz 8) <|
    ck (inb v2 3) <|
    f_R_does_L236 fu (R.1, R.2.1, R.2.2.1, R.2.2.2.1, R.2.2.2.2.1, R.2.2.2.2.2.1, R.2.2.2.2.2.2.1, R.2.2.2.2.2.2.2.1, R.2.2.2.2.2.2.2.2.1, R.2.2.2.2.2.2.2.2.2.1, R.2.2.2.2.2.2.2.2.2.2.1, (upd R.2.2.2.2.2.2.2.2.2.2.2.1 (ix v2) ((v4 + v3) - (v4 + v3) / 8 * 8)), R.2.2.2.2.2.2.2.2.2.2.2.2) v1 v2 v4
  else
    f_R_does_L236 fu R v1 v2 v4
def f_R_does_L196 (fu : Nat) (R : S_R) (v1 : Int32) (v2 : Int32) (v3 : Int32) (v4 : Int32) : Option (S_R) :=
  ck (inb v1 14) <|
  if (R.2.2.1 (ix v1)) = 1 then
    ck (inb v2 3) <|
    f_R_does_L213 fu (R.1, R.2.1, R.2.2.1, R.2.2.2.1, R.2.2.2.2.1, R.2.2.2.2.2.1, R.2.2.2.2.2.2.1, R.2.2.2.2.2.2.2.1, R.2.2.2.2.2.2.2.2.1, R.2.2.2.2.2.2.2.2.2.1, R.2.2.2.2.2.2.2.2.2.2.1, (upd R.2.2.2.2.2.2.2.2.2.2.2.1 (ix v2) 0), R.2.2.2.2.2.2.2.2.2.2.2.2) v1 v2 v3 v4
  else
    f_R_does_L213 fu R v1 v2 v3 v4
def f_R_does_L151 (fu : Nat) (R : S_R) (v1 : Int32) (v2 : Int32) (v3 : Int32) (v4 : Int32) (s1 : Int32) (s2 : Int32) : Option (S_R) :=
  ck (inb s1 3) <|
  ck (isB s2) <|
  ck (inb v1 14) <|
  if (R.2.2.1 (ix v1)) = 0 then
    ck (inb v2 3) <|
    f_R_does_L196 fu (R.1, R.2.1, R.2.2.1, R.2.2.2.1, R.2.2.2.2.1, R.2.2.2.2.2.1, R.2.2.2.2.2.2.1, R.2.2.2.2.2.2.2.1, R.2.2.2.2.2.2.2.2.1, R.2.2.2.2.2.2.2.2.2.1, R.2.2.2.2.2.2.2.2.2.2.1, (upd R.2.2.2.2.2.2.2.2.2.2.2.1 (ix v2) v3), (upd R.2.2.2.2.2.2.2.2.2.2.2.2.1 (ix s1) s2), R.2.2.2.2.2.2.2.2.2.2.2.2.2) v1 v2 v3 v4
  else
    ck (inb v1 14) <|
    if (R.2.2.1 (ix v1)) = 5 then
      ck (inb v2 3) <|
      f_R_does_L196 fu (R.1, R.2.1, R.2.2.1, R.2.2.2.1, R.2.2.2.2.1, R.2.2.2.2.2.1, R.2.2.2.2.2.2.1, R.2.2.2.2.2.2.2.1, R.2.2.2.2.2.2.2.2.1, R.2.2.2.2.2.2.2.2.2.1, R.2.2.2.2.2.2.2.2.2.2.1, (upd R.2.2.2.2.2.2.2.2.2.2.2.1 (ix v2) v3), (upd R.2.2.2.2.2.2.2.2.2.2.2.2.1 (ix s1) s2), R.2.2.2.2.2.2.2.2.2.2.2.2.2) v1 v2 v3 v4
    else
      ck (inb v1 14) <|
      if (R.2.2.1 (ix v1)) = 3 then
        bd (f_R_isLate fu (R.1, R.2.1, R.2.2.1, R.2.2.2.1, R.2.2.2.2.1, R.2.2.2.2.2.1, R.2.2.2.2.2.2.1, R.2.2.2.2.2.2.2.1, R.2.2.2.2.2.2.2.2.1, R.2.2.2.2.2.2.2.2.2.1, R.2.2.2.2.2.2.2.2.2.2.1, R.2.2.2.2.2.2.2.2.2.2.2.1, (upd R.2.2.2.2.2.2.2.2.2.2.2.2.1 (ix s1) s2), R.2.2.2.2.2.2.2.2.2.2.2.2.2) v1) fun r183 =>
        if r183 = 0 then
          ck (inb v2 3) <|
          f_R_does_L196 fu (R.1, R.2.1, R.2.2.1, R.2.2.2.1, R.2.2.2.2.1, R.2.2.2.2.2.1, R.2.2.2.2.2.2.1, R.2.2.2.2.2.2.2.1, R.2.2.2.2.2.2.2.2.1, R.2.2.2.2.2.2.2.2.2.1, R.2.2.2.2.2.2.2.2.2.2.1, (upd R.2.2.2.2.2.2.2.2.2.2.2.1 (ix v2) v3), (upd R.2.2.2.2.2.2.2.2.2.2.2.2.1 (ix s1) s2), R.2.2.2.2.2.2.2.2.2.2.2.2.2) v1 v2 v3 v4
        else
          f_R_does_L196 fu (R.1, R.2.1, R.2.2.1, R.2.2.2.1, R.2.2.2.2.1, R.2.2.2.2.2.1, R.2.2.2.2.2.2.1, R.2.2.2.2.2.2.2.1, R.2.2.2.2.2.2.2.2.1, R.2.2.2.2.2.2.2.2.2.1, R.2.2.2.2.2.2.2.2.2.2.1, R.2.2.2.2.2.2.2.2.2.2.2.1, (upd R.2.2.2.2.2.2.2.2.2.2.2.2.1 (ix s1) s2), R.2.2.2.2.2.2.2.2.2.2.2.2.2) v1 v2 v3 v4
      else
        f_R_does_L196 fu (R.1, R.2.1, R.2.2.1, R.2.2.2.1, R.2.2.2.2.1, R.2.2.2.2.2.1, R.2.2.2.2.2.2.1, R.2.2.2.2.2.2.2.1, R.2.2.2.2.2.2.2.2.1, R.2.2.2.2.2.2.2.2.2.1, R.2.2.2.2.2.2.2.2.2.2.1, R.2.2.2.2.2.2.2.2.2.2.2.1, (upd R.2.2.2.2.2.2.2.2.2.2.2.2.1 (ix s1) s2), R.2.2.2.2.2.2.2.2.2.2.2.2.2) v1 v2 v3 v4
def f_R_does_L112 (fu : Nat) (R : S_R) (v1 : Int32) (v2 : Int32) (v3 : Int32) (v4 : Int32) (s1 : Int32) (s2 : Int32) : Option (S_R) :=
  ck (inb s1 14) <|
  ck (inb v1 14) <|
  if (R.2.2.1 (ix v1)) = 1 then
    f_R_does_L151 fu (R.1, R.2.1, R.2.2.1, R.2.2.2.1, R.2.2.2.2.1, R.2.2.2.2.2.1, R.2.2.2.2.2.2.1, R.2.2.2.2.2.2.2.1, R.2.2.2.2.2.2.2.2.1, R.2.2.2.2.2.2.2.2.2.1, R.2.2.2.2.2.2.2.2.2.2.1, R.2.2.2.2.2.2.2.2.2.2.2.1, R.2.2.2.2.2.2.2.2.2.2.2.2.1, R.2.2.2.2.2.2.2.2.2.2.2.2.2.1, R.2.2.2.2.2.2.2.2.2.2.2.2.2.2.1, (upd R.2.2.2.2.2.2.2.2.2.2.2.2.2.2.2.1 (ix s1) s2), R.2.2.2.2.2.2.2.2.2.2.2.2.2.2.2.2) v1 v2 v3 v4 v2 0
  else
    ck (inb v1 14) <|
    if (R.2.2.1 (ix v1)) = 0 then
      f_R_does_L151 fu (R.1, R.2.1, R.2.2.1, R.2.2.2.1, R.2.2.2.2.1, R.2.2.2.2.2.1, R.2.2.2.2.2.2.1, R.2.2.2.2.2.2.2.1, R.2.2.2.2.2.2.2.2.1, R.2.2.2.2.2.2.2.2.2.1, R.2.2.2.2.2.2.2.2.2.2.1, R.2.2.2.2.2.2.2.2.2.2.2.1, R.2.2.2.2.2.2.2.2.2.2.2.2.1, R.2.2.2.2.2.2.2.2.2.2.2.2.2.1, R.2.2.2.2.2.2.2.2.2.2.2.2.2.2.1, (upd R.2.2.2.2.2.2.2.2.2.2.2.2.2.2.2.1 (ix s1) s2), R.2.2.2.2.2.2.2.2.2.2.2.2.2.2.2.2) v1 v2 v3 v4 v2 1
    else
      ck (inb v2 3) <|
      if (R.2.2.2.2.2.2.2.2.2.2.2.2.1 (ix v2)) = 0 then
        f_R_does_L151 fu (R.1, R.2.1, R.2.2.1, R.2.2.2.1, R.2.2.2.2.1, R.2.2.2.2.2.1, R.2.2.2.2.2.2.1, R.2.2.2.2.2.2.2.1, R.2.2.2.2.2.2.2.2.1, R.2.2.2.2.2.2.2.2.2.1, R.2.2.2.2.2.2.2.2.2.2.1, R.2.2.2.2.2.2.2.2.2.2.2.1, R.2.2.2.2.2.2.2.2.2.2.2.2.1, R.2.2.2.2.2.2.2.2.2.2.2.2.2.1, R.2.2.2.2.2.2.2.2.2.2.2.2.2.2.1, (upd R.2.2.2.2.2.2.2.2.2.2.2.2.2.2.2.1 (ix s1) s2), R.2.2.2.2.2.2.2.2.2.2.2.2.2.2.2.2) v1 v2 v3 v4 v2 0
      else
        f_R_does_L151 fu (R.1, R.2.1, R.2.2.1, R.2.2.2.1, R.2.2.2.2.1, R.2.2.2.2.2.1, R.2.2.2.2.2.2.1, R.2.2.2.2.2.2.2.1, R.2.2.2.2.2.2.2.2.1, R.2.2.2.2.2.2.2.2.2.1, R.2.2.2.2.2.2.2.2.2.2.1, R.2.2.2.2.2.2.2.2.2.2.2.1, R.2.2.2.2.2.2.2.2.2.2.2.2.1, R.2.2.2.2.2.2.2.2.2.2.2.2.2.1, R.2.2.2.2.2.2.2.2.2.2.2.2.2.2.1, (upd R.2.2.2.2.2.2.2.2.2.2.2.2.2.2.2.1 (ix s1) s2), R.2.2.2.2.2.2.2.2.2.2.2.2.2.2.2.2) v1 v2 v3 v4 v2 1
def f_R_does (fu : Nat) (R : S_R) (a1 : Int32) : Option (S_R) :=
  ck (inb a1 14) <|
  ck (inb a1 14) <|
  ck (inb a1 14) <|
  ck (inb a1 14) <|
  if (R.2.2.1 (ix a1)) = 1 then
    ck (inb (R.2.2.2.1 (ix a1)) 3) <|
    f_R_does_L112 fu R a1 (R.2.2.2.1 (ix a1)) (R.2.2.2.2.2.2.2.2.2.2.2.2.2.2.2.2.1 (ix a1)) (R.2.2.2.2.2.2.2.2.2.2.2.2.2.2.2.2.2.2.2.1 (ix a1)) a1 (R.2.2.2.2.2.2.2.2.2.2.2.1 (ix (R.2.2.2.1 (ix a1))))
  else
    ck (inb a1 14) <|
    if (R.2.2.1 (ix a1)) = 2 then
      ck (inb (R.2.2.2.1 (ix a1)) 3) <|
      f_R_does_L112 fu R a1 (R.2.2.2.1 (ix a1)) (R.2.2.2.2.2.2.2.2.2.2.2.2.2.2.2.2.1 (ix a1)) (R.2.2.2.2.2.2.2.2.2.2.2.2.2.2.2.2.2.2.2.1 (ix a1)) a1 (R.2.2.2.2.2.2.2.2.2.2.2.1 (ix (R.2.2.2.1 (ix a1))))
    else
      ck (inb a1 14) <|
      if (R.2.2.1 (ix a1)) = 4 then
        ck (nz 8) <|
        f_R_does_L112 fu R a1 (R.2.2.2.1 (ix a1)) (R.2.2.2.2.2.2.2.2.2.2.2.2.2.2.2.2.1 (ix a1)) (R.2.2.2.2.2.2.2.2.2.2.2.2.2.2.2.2.2.2.2.1 (ix a1)) a1 (((R.2.2.2.2.2.2.2.2.2.2.2.2.2.2.2.2.2.2.2.1 (ix a1)) + (R.2.2.2.2.2.2.2.2.2.2.2.2.2.2.2.2.1 (ix a1))) - ((R.2.2.2.2.2.2.2.2.2.2.2.2.2.2.2.2.2.2.2.1 (ix a1)) + (R.2.2.2.2.2.2.2.2.2.2.2.2.2.2.2.2.1 (ix a1))) / 8 * 8)
      else
        ck (inb a1 14) <|
        if (R.2.2.1 (ix a1)) = 5 then
          f_R_does_L112 fu R a1 (R.2.2.2.1 (ix a1)) (R.2.2.2.2.2.2.2.2.2.2.2.2.2.2.2.2.1 (ix a1)) (R.2.2.2.2.2.2.2.2.2.2.2.2.2.2.2.2.2.2.2.1 (ix a1)) a1 (R.2.2.2.2.2.2.2.2.2.2.2.2.2.2.2.2.2.2.2.1 (ix a1))
        else
          ck (inb a1 14) <|
          if (R.2.2.1 (ix a1)) = 6 then
            ck (inb (R.2.2.2.1 (ix a1)) 3) <|
            f_R_does_L112 fu R a1 (R.2.2.2.1 (ix a1)) (R.2.2.2.2.2.2.2.2.2.2.2.2.2.2.2.2.1 (ix a1)) (R.2.2.2.2.2.2.2.2.2.2.2.2.2.2.2.2.2.2.2.1 (ix a1)) a1 (R.2.2.2.2.2.2.2.2.2.2.2.1 (ix (R.2.2.2.1 (ix a1))))
          else
            f_R_does_L112 fu R a1 (R.2.2.2.1 (ix a1)) (R.2.2.2.2.2.2.2.2.2.2.2.2.2.2.2.2.1 (ix a1)) (R.2.2.2.2.2.2.2.2.2.2.2.2.2.2.2.2.2.2.2.1 (ix a1)) a1 0
def f_R_calls (fu : Nat) (R : S_R) (a1 : Int32) : Option (S_R) :=
  ck (inb a1 14) <|
  if 8 ≤ (R.2.2.2.2.1 (ix a1)) then
    ck (inb a1 14) <|
    ck (inb ((R.2.2.2.2.1 (ix a1)) - 8) 14) <|
    ck (inb a1 14) <|
    some ((R.1, R.2.1, R.2.2.1, R.2.2.2.1, R.2.2.2.2.1, R.2.2.2.2.2.1, R.2.2.2.2.2.2.1, R.2.2.2.2.2.2.2.1, R.2.2.2.2.2.2.2.2.1, R.2.2.2.2.2.2.2.2.2.1, R.2.2.2.2.2.2.2.2.2.2.1, R.2.2.2.2.2.2.2.2.2.2.2.1, R.2.2.2.2.2.2.2.2.2.2.2.2.1, R.2.2.2.2.2.2.2.2.2.2.2.2.2.1, R.2.2.2.2.2.2.2.2.2.2.2.2.2.2.1, R.2.2.2.2.2.2.2.2.2.2.2.2.2.2.2.1, (upd R.2.2.2.2.2.2.2.2.2.2.2.2.2.2.2.2.1 (ix a1) (R.2.2.2.2.2.2.2.2.2.2.2.2.2.2.2.1 (ix ((R.2.2.2.2.1 (ix a1)) - 8)))), R.2.2.2.2.2.2.2.2.2.2.2.2.2.2.2.2.2))
  else
    ck (inb a1 14) <|
    ck (inb a1 14) <|
    some ((R.1, R.2.1, R.2.2.1, R.2.2.2.1, R.2.2.2.2.1, R.2.2.2.2.2.1, R.2.2.2.2.2.2.1, R.2.2.2.2.2.2.2.1, R.2.2.2.2.2.2.2.2.1, R.2.2.2.2.2.2.2.2.2.1, R.2.2.2.2.2.2.2.2.2.2.1, R.2.2.2.2.2.2.2.2.2.2.2.1, R.2.2.2.2.2.2.2.2.2.2.2.2.1, R.2.2.2.2.2.2.2.2.2.2.2.2.2.1, R.2.2.2.2.2.2.2.2.2.2.2.2.2.2.1, R.2.2.2.2.2.2.2.2.2.2.2.2.2.2.2.1, (upd R.2.2.2.2.2.2.2.2.2.2.2.2.2.2.2.2.1 (ix a1) (R.2.2.2.2.1 (ix a1))), R.2.2.2.2.2.2.2.2.2.2.2.2.2.2.2.2.2))
def f_R_events_L13 (fu : Nat) (R : S_R) (v1 : Int32) (s0 : Int32) : Option (Int32) :=
  bd (f_R_isLate fu R v1) fun r15 =>
  if r15 = 0 then
    some (s0 + 0)
  else
    some (s0 + 1)
def f_R_events (fu : Nat) (R : S_R) (a1 : Int32) : Option (Int32) :=
  bd (f_R_twoParts fu R a1) fun r2 =>
  if r2 = 0 then
    f_R_events_L13 fu R a1 3
  else
    f_R_events_L13 fu R a1 4
def f_R_happens_L78 (fu : Nat) (R : S_R) (v1 : Int32) (v2 : Int32) (v4 : Int32) : Option (S_R) :=
  if v2 = (v4 + 2) then
    ck (inb v1 14) <|
    ck (inb v1 14) <|
    ck (inb (R.2.2.2.1 (ix v1)) 3) <|
    some ((R.1, R.2.1, R.2.2.1, R.2.2.2.1, R.2.2.2.2.1, R.2.2.2.2.2.1, R.2.2.2.2.2.2.1, R.2.2.2.2.2.2.2.1, R.2.2.2.2.2.2.2.2.1, R.2.2.2.2.2.2.2.2.2.1, R.2.2.2.2.2.2.2.2.2.2.1, (upd R.2.2.2.2.2.2.2.2.2.2.2.1 (ix (R.2.2.2.1 (ix v1))) (R.2.2.2.2.2.2.2.2.2.2.2.2.2.2.2.2.1 (ix v1))), R.2.2.2.2.2.2.2.2.2.2.2.2))
  else
    some R
def f_R_happens_L63 (fu : Nat) (R : S_R) (v1 : Int32) (v2 : Int32) (v3 : Int32) (v4 : Int32) : Option (S_R) :=
  if v2 = (v4 + 1) then
    ck (inb v1 14) <|
    f_R_happens_L78 fu (R.1, R.2.1, R.2.2.1, R.2.2.2.1, R.2.2.2.2.1, R.2.2.2.2.2.1, R.2.2.2.2.2.2.1, R.2.2.2.2.2.2.2.1, R.2.2.2.2.2.2.2.2.1, R.2.2.2.2.2.2.2.2.2.1, R.2.2.2.2.2.2.2.2.2.2.1, R.2.2.2.2.2.2.2.2.2.2.2.1, R.2.2.2.2.2.2.2.2.2.2.2.2.1, R.2.2.2.2.2.2.2.2.2.2.2.2.2.1, R.2.2.2.2.2.2.2.2.2.2.2.2.2.2.1, R.2.2.2.2.2.2.2.2.2.2.2.2.2.2.2.1, R.2.2.2.2.2.2.2.2.2.2.2.2.2.2.2.2.1, R.2.2.2.2.2.2.2.2.2.2.2.2.2.2.2.2.2.1, (upd R.2.2.2.2.2.2.2.2.2.2.2.2.2.2.2.2.2.2.1 (ix v1) v3), R.2.2.2.2.2.2.2.2.2.2.2.2.2.2.2.2.2.2.2) v1 v2 v4
  else
    f_R_happens_L78 fu R v1 v2 v4
def f_R_happens_L31 (fu : Nat) (R : S_R) (v1 : Int32) (v2 : Int32) (v3 : Int32) (v4 : Int32) : Option (S_R) :=
  if v2 = 1 then
    bd (f_R_source fu R v1) fun r47 =>
    ck (inb r47 3) <|
    ck (inb v1 14) <|
    if v2 = v4 then
      bd (f_R_does fu (R.1, R.2.1, R.2.2.1, R.2.2.2.1, R.2.2.2.2.1, R.2.2.2.2.2.1, R.2.2.2.2.2.2.1, R.2.2.2.2.2.2.2.1, R.2.2.2.2.2.2.2.2.1, R.2.2.2.2.2.2.2.2.2.1, R.2.2.2.2.2.2.2.2.2.2.1, R.2.2.2.2.2.2.2.2.2.2.2.1, R.2.2.2.2.2.2.2.2.2.2.2.2.1, R.2.2.2.2.2.2.2.2.2.2.2.2.2.1, R.2.2.2.2.2.2.2.2.2.2.2.2.2.2.1, R.2.2.2.2.2.2.2.2.2.2.2.2.2.2.2.1, R.2.2.2.2.2.2.2.2.2.2.2.2.2.2.2.2.1, R.2.2.2.2.2.2.2.2.2.2.2.2.2.2.2.2.2.1, R.2.2.2.2.2.2.2.2.2.2.2.2.2.2.2.2.2.2.1, (upd R.2.2.2.2.2.2.2.2.2.2.2.2.2.2.2.2.2.2.2.1 (ix v1) (R.2.2.2.2.2.2.2.2.2.2.2.1 (ix r47))), R.2.2.2.2.2.2.2.2.2.2.2.2.2.2.2.2.2.2.2.2) v1) fun R_60 =>
      f_R_happens_L63 fu R_60 v1 v2 v3 v4
    else
      f_R_happens_L63 fu (R.1, R.2.1, R.2.2.1, R.2.2.2.1, R.2.2.2.2.1, R.2.2.2.2.2.1, R.2.2.2.2.2.2.1, R.2.2.2.2.2.2.2.1, R.2.2.2.2.2.2.2.2.1, R.2.2.2.2.2.2.2.2.2.1, R.2.2.2.2.2.2.2.2.2.2.1, R.2.2.2.2.2.2.2.2.2.2.2.1, R.2.2.2.2.2.2.2.2.2.2.2.2.1, R.2.2.2.2.2.2.2.2.2.2.2.2.2.1, R.2.2.2.2.2.2.2.2.2.2.2.2.2.2.1, R.2.2.2.2.2.2.2.2.2.2.2.2.2.2.2.1, R.2.2.2.2.2.2.2.2.2.2.2.2.2.2.2.2.1, R.2.2.2.2.2.2.2.2.2.2.2.2.2.2.2.2.2.1, R.2.2.2.2.2.2.2.2.2.2.2.2.2.2.2.2.2.2.1, (upd R.2.2.2.2.2.2.2.2.2.2.2.2.2.2.2.2.2.2.2.1 (ix v1) (R.2.2.2.2.2.2.2.2.2.2.2.1 (ix r47))), R.2.2.2.2.2.2.2.2.2.2.2.2.2.2.2.2.2.2.2.2) v1 v2 v3 v4
  else
    if v2 = v4 then
      bd (f_R_does fu R v1) fun R_60 =>
      f_R_happens_L63 fu R_60 v1 v2 v3 v4
    else
      f_R_happens_L63 fu R v1 v2 v3 v4
def f_R_happens_L13 (fu : Nat) (R : S_R) (v1 : Int32) (v2 : Int32) (v3 : Int32) (s0 : Int32) : Option (S_R) :=
  if v2 = 0 then
    bd (f_R_calls fu R v1) fun R_21 =>
    ck (inb v1 14) <|
    f_R_happens_L31 fu (R_21.1, R_21.2.1, R_21.2.2.1, R_21.2.2.2.1, R_21.2.2.2.2.1, R_21.2.2.2.2.2.1, R_21.2.2.2.2.2.2.1, R_21.2.2.2.2.2.2.2.1, R_21.2.2.2.2.2.2.2.2.1, R_21.2.2.2.2.2.2.2.2.2.1, R_21.2.2.2.2.2.2.2.2.2.2.1, R_21.2.2.2.2.2.2.2.2.2.2.2.1, R_21.2.2.2.2.2.2.2.2.2.2.2.2.1, R_21.2.2.2.2.2.2.2.2.2.2.2.2.2.1, R_21.2.2.2.2.2.2.2.2.2.2.2.2.2.2.1, R_21.2.2.2.2.2.2.2.2.2.2.2.2.2.2.2.1, R_21.2.2.2.2.2.2.2.2.2.2.2.2.2.2.2.2.1, (upd R_21.2.2.2.2.2.2.2.2.2.2.2.2.2.2.2.2.2.1 (ix v1) v3), R_21.2.2.2.2.2.2.2.2.2.2.2.2.2.2.2.2.2.2) v1 v2 v3 s0
  else
    f_R_happens_L31 fu R v1 v2 v3 s0
def f_R_happens (fu : Nat) (R : S_R) (a1 : Int32) (a2 : Int32) (a3 : Int32) : Option (S_R) :=
  bd (f_R_twoParts fu R a1) fun r2 =>
  if r2 = 0 then
    f_R_happens_L13 fu R a1 a2 a3 1
  else
    f_R_happens_L13 fu R a1 a2 a3 2
def f_R_hasLeft (fu : Nat) (R : S_R) (a1 : Int32) : Option (Int32) :=
  ck (inb a1 3) <|
  bd (f_R_first fu R a1) fun r8 =>
  ck (inb a1 3) <|
  if (r8 + (R.2.1 (ix a1))) ≤ (R.2.2.2.2.2.2.2.2.2.2.2.2.2.2.2.2.2.2.2.2.1 (ix a1)) then
    ck (isB 0) <|
    some 0
  else
    ck (isB 1) <|
    some 1
def f_R_go_L152 (fu : Nat) (k102 : S_R → Int32 → Int32 → Option (S_R)) (R : S_R) (v1 : Int32) (v2 : Int32) (s0 : Int32) : Option (S_R) :=
  ck (inb s0 3) <|
  ck (inb s0 3) <|
  bd (f_R_happens fu R (R.2.2.2.2.2.2.2.2.2.2.2.2.2.2.2.2.2.2.2.2.1 (ix s0)) (R.2.2.2.2.2.2.2.2.2.2.2.2.2.2.2.2.2.2.2.2.2.1 (ix s0)) v2) fun R_167 =>
  ck (inb s0 3) <|
  ck (inb s0 3) <|
  ck (inb s0 3) <|
  ck (inb s0 3) <|
  bd (f_R_events fu (R_167.1, R_167.2.1, R_167.2.2.1, R_167.2.2.2.1, R_167.2.2.2.2.1, R_167.2.2.2.2.2.1, R_167.2.2.2.2.2.2.1, R_167.2.2.2.2.2.2.2.1, R_167.2.2.2.2.2.2.2.2.1, R_167.2.2.2.2.2.2.2.2.2.1, R_167.2.2.2.2.2.2.2.2.2.2.1, R_167.2.2.2.2.2.2.2.2.2.2.2.1, R_167.2.2.2.2.2.2.2.2.2.2.2.2.1, R_167.2.2.2.2.2.2.2.2.2.2.2.2.2.1, R_167.2.2.2.2.2.2.2.2.2.2.2.2.2.2.1, R_167.2.2.2.2.2.2.2.2.2.2.2.2.2.2.2.1, R_167.2.2.2.2.2.2.2.2.2.2.2.2.2.2.2.2.1, R_167.2.2.2.2.2.2.2.2.2.2.2.2.2.2.2.2.2.1, R_167.2.2.2.2.2.2.2.2.2.2.2.2.2.2.2.2.2.2.1, R_167.2.2.2.2.2.2.2.2.2.2.2.2.2.2.2.2.2.2.2.1, R_167.2.2.2.2.2.2.2.2.2.2.2.2.2.2.2.2.2.2.2.2.1, (upd R_167.2.2.2.2.2.2.2.2.2.2.2.2.2.2.2.2.2.2.2.2.2.1 (ix s0) ((R_167.2.2.2.2.2.2.2.2.2.2.2.2.2.2.2.2.2.2.2.2.2.1 (ix s0)) + 1)), R_167.2.2.2.2.2.2.2.2.2.2.2.2.2.2.2.2.2.2.2.2.2.2) (R_167.2.2.2.2.2.2.2.2.2.2.2.2.2.2.2.2.2.2.2.2.1 (ix s0))) fun r193 =>
  if ((upd R_167.2.2.2.2.2.2.2.2.2.2.2.2.2.2.2.2.2.2.2.2.2.1 (ix s0) ((R_167.2.2.2.2.2.2.2.2.2.2.2.2.2.2.2.2.2.2.2.2.2.1 (ix s0)) + 1)) (ix s0)) = r193 then
    ck (inb s0 3) <|
    ck (inb s0 3) <|
    ck (inb s0 3) <|
    k102 (R_167.1, R_167.2.1, R_167.2.2.1, R_167.2.2.2.1, R_167.2.2.2.2.1, R_167.2.2.2.2.2.1, R_167.2.2.2.2.2.2.1, R_167.2.2.2.2.2.2.2.1, R_167.2.2.2.2.2.2.2.2.1, R_167.2.2.2.2.2.2.2.2.2.1, R_167.2.2.2.2.2.2.2.2.2.2.1, R_167.2.2.2.2.2.2.2.2.2.2.2.1, R_167.2.2.2.2.2.2.2.2.2.2.2.2.1, R_167.2.2.2.2.2.2.2.2.2.2.2.2.2.1, R_167.2.2.2.2.2.2.2.2.2.2.2.2.2.2.1, R_167.2.2.2.2.2.2.2.2.2.2.2.2.2.2.2.1, R_167.2.2.2.2.2.2.2.2.2.2.2.2.2.2.2.2.1, R_167.2.2.2.2.2.2.2.2.2.2.2.2.2.2.2.2.2.1, R_167.2.2.2.2.2.2.2.2.2.2.2.2.2.2.2.2.2.2.1, R_167.2.2.2.2.2.2.2.2.2.2.2.2.2.2.2.2.2.2.2.1, (upd R_167.2.2.2.2.2.2.2.2.2.2.2.2.2.2.2.2.2.2.2.2.1 (ix s0) ((R_167.2.2.2.2.2.2.2.2.2.2.2.2.2.2.2.2.2.2.2.2.1 (ix s0)) + 1)), (upd (upd R_167.2.2.2.2.2.2.2.2.2.2.2.2.2.2.2.2.2.2.2.2.2.1 (ix s0) ((R_167.2.2.2.2.2.2.2.2.2.2.2.2.2.2.2.2.2.2.2.2.2.1 (ix s0)) + 1)) (ix s0) 0), R_167.2.2.2.2.2.2.2.2.2.2.2.2.2.2.2.2.2.2.2.2.2.2) v1 (v2 + 1)
  else
    k102 (R_167.1, R_167.2.1, R_167.2.2.1, R_167.2.2.2.1, R_167.2.2.2.2.1, R_167.2.2.2.2.2.1, R_167.2.2.2.2.2.2.1, R_167.2.2.2.2.2.2.2.1, R_167.2.2.2.2.2.2.2.2.1, R_167.2.2.2.2.2.2.2.2.2.1, R_167.2.2.2.2.2.2.2.2.2.2.1, R_167.2.2.2.2.2.2.2.2.2.2.2.1, R_167.2.2.2.2.2.2.2.2.2.2.2.2.1, R_167.2.2.2.2.2.2.2.2.2.2.2.2.2.1, R_167.2.2.2.2.2.2.2.2.2.2.2.2.2.2.1, R_167.2.2.2.2.2.2.2.2.2.2.2.2.2.2.2.1, R_167.2.2.2.2.2.2.2.2.2.2.2.2.2.2.2.2.1, R_167.2.2.2.2.2.2.2.2.2.2.2.2.2.2.2.2.2.1, R_167.2.2.2.2.2.2.2.2.2.2.2.2.2.2.2.2.2.2.1, R_167.2.2.2.2.2.2.2.2.2.2.2.2.2.2.2.2.2.2.2.1, R_167.2.2.2.2.2.2.2.2.2.2.2.2.2.2.2.2.2.2.2.2.1, (upd R_167.2.2.2.2.2.2.2.2.2.2.2.2.2.2.2.2.2.2.2.2.2.1 (ix s0) ((R_167.2.2.2.2.2.2.2.2.2.2.2.2.2.2.2.2.2.2.2.2.2.1 (ix s0)) + 1)), R_167.2.2.2.2.2.2.2.2.2.2.2.2.2.2.2.2.2.2.2.2.2.2) v1 (v2 + 1)
def f_R_go_L118 (fu : Nat) (k102 : S_R → Int32 → Int32 → Option (S_R)) (R : S_R) (v1 : Int32) (v2 : Int32) : Option (S_R) :=
  bd (f_R_hasLeft fu R 2) fun r120 =>
  if r120 = 0 then
    f_R_go_L152 fu k102 R v1 v2 1
  else
    bd (f_R_hasLeft fu R 1) fun r132 =>
    if r132 = 0 then
      f_R_go_L152 fu k102 R v1 v2 2
    else
      ck (nz 31) <|
      f_R_go_L152 fu k102 R v1 v2 (1 + ((v1 >>> ((v2 - v2 / 31 * 31) &&& 31)) &&& 1))
def f_R_go_L102 (fu : Nat) : Nat → S_R → Int32 → Int32 → Option (S_R)
  | 0, _, _, _ => none
  | n + 1, R, v1, v2 =>
    bd (f_R_hasLeft fu R 1) fun r104 =>
    if r104 = 0 then
      bd (f_R_hasLeft fu R 2) fun r112 =>
      if r112 = 0 then
        some R
      else
        f_R_go_L118 fu (f_R_go_L102 fu n) R v1 v2
    else
      f_R_go_L118 fu (f_R_go_L102 fu n) R v1 v2
def f_R_go_L71 (fu : Nat) : Nat → S_R → Int32 → Int32 → Option (S_R)
  | 0, _, _, _ => none
  | n + 1, R, v1, v2 =>
    if 3 ≤ v2 then
      f_R_go_L102 fu fu R v1 0
    else
      bd (f_R_first fu R v2) fun r83 =>
      ck (inb v2 3) <|
      ck (inb v2 3) <|
      f_R_go_L71 fu n (R.1, R.2.1, R.2.2.1, R.2.2.2.1, R.2.2.2.2.1, R.2.2.2.2.2.1, R.2.2.2.2.2.2.1, R.2.2.2.2.2.2.2.1, R.2.2.2.2.2.2.2.2.1, R.2.2.2.2.2.2.2.2.2.1, R.2.2.2.2.2.2.2.2.2.2.1, R.2.2.2.2.2.2.2.2.2.2.2.1, R.2.2.2.2.2.2.2.2.2.2.2.2.1, R.2.2.2.2.2.2.2.2.2.2.2.2.2.1, R.2.2.2.2.2.2.2.2.2.2.2.2.2.2.1, R.2.2.2.2.2.2.2.2.2.2.2.2.2.2.2.1, R.2.2.2.2.2.2.2.2.2.2.2.2.2.2.2.2.1, R.2.2.2.2.2.2.2.2.2.2.2.2.2.2.2.2.2.1, R.2.2.2.2.2.2.2.2.2.2.2.2.2.2.2.2.2.2.1, R.2.2.2.2.2.2.2.2.2.2.2.2.2.2.2.2.2.2.2.1, (upd R.2.2.2.2.2.2.2.2.2.2.2.2.2.2.2.2.2.2.2.2.1 (ix v2) r83), (upd R.2.2.2.2.2.2.2.2.2.2.2.2.2.2.2.2.2.2.2.2.2.1 (ix v2) 0), R.2.2.2.2.2.2.2.2.2.2.2.2.2.2.2.2.2.2.2.2.2.2) v1 (v2 + 1)
def f_R_go_L41 (fu : Nat) (k29 : S_R → Int32 → Int32 → Option (S_R)) : Nat → S_R → Int32 → Int32 → Int32 → Option (S_R)
  | 0, _, _, _, _ => none
  | n + 1, R, v1, v2, v3 =>
    bd (f_R_events fu R v2) fun r44 =>
    if r44 ≤ v3 then
      k29 R v1 (v2 + 1)
    else
      bd (f_R_happens fu R v2 v3 (-1)) fun R_54 =>
      f_R_go_L41 fu k29 n R_54 v1 v2 (v3 + 1)
def f_R_go_L29 (fu : Nat) : Nat → S_R → Int32 → Int32 → Option (S_R)
  | 0, _, _, _ => none
  | n + 1, R, v1, v2 =>
    ck (inb 0 3) <|
    if (R.2.1 (ix 0)) ≤ v2 then
      f_R_go_L71 fu fu R v1 1
    else
      f_R_go_L41 fu (f_R_go_L29 fu n) fu R v1 v2 0
def f_R_go_L2 (fu : Nat) : Nat → S_R → Int32 → Int32 → Option (S_R)
  | 0, _, _, _ => none
  | n + 1, R, v1, v2 =>
    if 3 ≤ v2 then
      f_R_go_L29 fu fu R v1 0
    else
      ck (inb v2 3) <|
      ck (inb v2 3) <|
      ck (isB 0) <|
      f_R_go_L2 fu n (R.1, R.2.1, R.2.2.1, R.2.2.2.1, R.2.2.2.2.1, R.2.2.2.2.2.1, R.2.2.2.2.2.2.1, R.2.2.2.2.2.2.2.1, R.2.2.2.2.2.2.2.2.1, R.2.2.2.2.2.2.2.2.2.1, R.2.2.2.2.2.2.2.2.2.2.1, (upd R.2.2.2.2.2.2.2.2.2.2.2.1 (ix v2) 0), (upd R.2.2.2.2.2.2.2.2.2.2.2.2.1 (ix v2) 0), R.2.2.2.2.2.2.2.2.2.2.2.2.2) v1 (v2 + 1)
def f_R_go (fu : Nat) (R : S_R) (a1 : Int32) : Option (S_R) :=
  f_R_go_L2 fu fu R a1 0
def f_R_right_L126 (fu : Nat) (R : S_R) (v1 : Int32) (v2 : Int32) (v3 : Int32) : Option (Int32 × S_R) :=
  ck (inb v1 14) <|
  if (R.2.2.1 (ix v1)) = 0 then
    some (0, R)
  else
    ck (inb v1 14) <|
    if (R.2.2.1 (ix v1)) = 3 then
      some (0, R)
    else
      ck (inb v1 14) <|
      if (R.2.2.1 (ix v1)) = 4 then
        ck (inb v2 3) <|
        some (R.2.2.2.2.2.2.2.2.2.1 (ix v2), R)
      else
        some (v3, R)
def f_R_right_L99 (fu : Nat) (R : S_R) (v1 : Int32) (v2 : Int32) (v3 : Int32) : Option (Int32 × S_R) :=
  ck (inb v1 14) <|
  if (R.2.2.1 (ix v1)) = 6 then
    ck (nz 3) <|
    ck (inb ((v2 + 1) - (v2 + 1) / 3 * 3) 3) <|
    ck (inb v2 3) <|
    f_R_right_L126 fu (R.1, R.2.1, R.2.2.1, R.2.2.2.1, R.2.2.2.2.1, R.2.2.2.2.2.1, R.2.2.2.2.2.2.1, R.2.2.2.2.2.2.2.1, R.2.2.2.2.2.2.2.2.1, (upd R.2.2.2.2.2.2.2.2.2.1 (ix v2) (R.2.2.2.2.2.2.2.2.2.1 (ix ((v2 + 1) - (v2 + 1) / 3 * 3)))), R.2.2.2.2.2.2.2.2.2.2) v1 v2 v3
  else
    f_R_right_L126 fu R v1 v2 v3
def f_R_right_L76 (fu : Nat) (R : S_R) (v1 : Int32) (v2 : Int32) (v3 : Int32) (v4 : Int32) : Option (Int32 × S_R) :=
  ck (inb v1 14) <|
  if (R.2.2.1 (ix v1)) = 4 then
    ck (nz 8) <|
    ck (inb v2 3) <|
    f_R_right_L99 fu (R.1, R.2.1, R.2.2.1, R.2.2.2.1, R.2.2.2.2.1, R.2.2.2.2.2.1, R.2.2.2.2.2.2.1, R.2.2.2.2.2.2.2.1, R.2.2.2.2.2.2.2.2.1, (upd R.2.2.2.2.2.2.2.2.2.1 (ix v2) ((v3 + v4) - (v3 + v4) / 8 * 8)), R.2.2.2.2.2.2.2.2.2.2) v1 v2 v3
  else
    f_R_right_L99 fu R v1 v2 v3
def f_R_right_L39 (fu : Nat) (R : S_R) (v1 : Int32) (v2 : Int32) (v3 : Int32) (v4 : Int32) : Option (Int32 × S_R) :=
  ck (inb v1 14) <|
  if (R.2.2.1 (ix v1)) = 0 then
    ck (inb v2 3) <|
    f_R_right_L76 fu (R.1, R.2.1, R.2.2.1, R.2.2.2.1, R.2.2.2.2.1, R.2.2.2.2.2.1, R.2.2.2.2.2.2.1, R.2.2.2.2.2.2.2.1, R.2.2.2.2.2.2.2.2.1, (upd R.2.2.2.2.2.2.2.2.2.1 (ix v2) v4), R.2.2.2.2.2.2.2.2.2.2) v1 v2 v3 v4
  else
    ck (inb v1 14) <|
    if (R.2.2.1 (ix v1)) = 3 then
      ck (inb v2 3) <|
      f_R_right_L76 fu (R.1, R.2.1, R.2.2.1, R.2.2.2.1, R.2.2.2.2.1, R.2.2.2.2.2.1, R.2.2.2.2.2.2.1, R.2.2.2.2.2.2.2.1, R.2.2.2.2.2.2.2.2.1, (upd R.2.2.2.2.2.2.2.2.2.1 (ix v2) v4), R.2.2.2.2.2.2.2.2.2.2) v1 v2 v3 v4
    else
      ck (inb v1 14) <|
      if (R.2.2.1 (ix v1)) = 5 then
        ck (inb v2 3) <|
        f_R_right_L76 fu (R.1, R.2.1, R.2.2.1, R.2.2.2.1, R.2.2.2.2.1, R.2.2.2.2.2.1, R.2.2.2.2.2.2.1, R.2.2.2.2.2.2.2.1, R.2.2.2.2.2.2.2.2.1, (upd R.2.2.2.2.2.2.2.2.2.1 (ix v2) v4), R.2.2.2.2.2.2.2.2.2.2) v1 v2 v3 v4
      else
        f_R_right_L76 fu R v1 v2 v3 v4
def f_R_right (fu : Nat) (R : S_R) (a1 : Int32) : Option (Int32 × S_R) :=
  ck (inb a1 14) <|
  ck (inb (R.2.2.2.1 (ix a1)) 3) <|
  ck (inb a1 14) <|
  ck (inb a1 14) <|
  if (R.2.2.1 (ix a1)) = 1 then
    ck (inb (R.2.2.2.1 (ix a1)) 3) <|
    f_R_right_L39 fu (R.1, R.2.1, R.2.2.1, R.2.2.2.1, R.2.2.2.2.1, R.2.2.2.2.2.1, R.2.2.2.2.2.2.1, R.2.2.2.2.2.2.2.1, R.2.2.2.2.2.2.2.2.1, (upd R.2.2.2.2.2.2.2.2.2.1 (ix (R.2.2.2.1 (ix a1))) 0), R.2.2.2.2.2.2.2.2.2.2) a1 (R.2.2.2.1 (ix a1)) (R.2.2.2.2.2.2.2.2.2.1 (ix (R.2.2.2.1 (ix a1)))) (R.2.2.2.2.2.2.2.2.2.2.2.2.2.2.2.2.1 (ix a1))
  else
    f_R_right_L39 fu R a1 (R.2.2.2.1 (ix a1)) (R.2.2.2.2.2.2.2.2.2.1 (ix (R.2.2.2.1 (ix a1)))) (R.2.2.2.2.2.2.2.2.2.2.2.2.2.2.2.2.1 (ix a1))
def f_R_explains_L128 (fu : Nat) (k81 : S_R → Int32 → Int32 → Int32 → Int32 → Option (Int32 × S_R)) : Nat → S_R → Int32 → Int32 → Int32 → Int32 → Int32 → Int32 → Option (Int32 × S_R)
  | 0, _, _, _, _, _, _, _ => none
  | n + 1, R, v1, v2, v3, v4, v5, v6 =>
    if v3 ≤ v6 then
      k81 R v1 v2 v3 (v4 + 1)
    else
      if v2 = 0 then
        f_R_explains_L128 fu k81 n R v1 0 v3 v4 v5 (v6 + 1)
      else
        bd (f_R_placed fu R v1 v6) fun r146 =>
        ck (inb r146 14) <|
        ck (inb v5 14) <|
        if (R.2.2.2.2.2.2.2.2.2.2.2.2.2.2.2.2.2.2.1 (ix r146)) ≤ (R.2.2.2.2.2.2.2.2.2.2.2.2.2.2.2.2.2.1 (ix v5)) then
          f_R_explains_L128 fu k81 n R v1 0 v3 v4 v5 (v6 + 1)
        else
          f_R_explains_L128 fu k81 n R v1 1 v3 v4 v5 (v6 + 1)
def f_R_explains_L81 (fu : Nat) : Nat → S_R → Int32 → Int32 → Int32 → Int32 → Option (Int32 × S_R)
  | 0, _, _, _, _, _ => none
  | n + 1, R, v1, v2, v3, v4 =>
    if v3 ≤ v4 then
      ck (isB v2) <|
      some (v2, R)
    else
      if v2 = 0 then
        ck (isB v2) <|
        some (v2, R)
      else
        bd (f_R_placed fu R v1 v4) fun r95 =>
        bd (f_R_right fu R r95) fun (r103, R_103) =>
        ck (inb r95 14) <|
        if r103 = (R_103.2.2.2.2.2.2.2.2.2.2.2.2.2.2.2.1 (ix r95)) then
          f_R_explains_L128 fu (f_R_explains_L81 fu n) fu R_103 v1 1 v3 v4 r95 (v4 + 1)
        else
          f_R_explains_L128 fu (f_R_explains_L81 fu n) fu R_103 v1 0 v3 v4 r95 (v4 + 1)
def f_R_explains_L64 (fu : Nat) (R : S_R) (v1 : Int32) (v2 : Int32) : Option (Int32 × S_R) :=
  ck (inb 1 3) <|
  ck (inb 2 3) <|
  f_R_explains_L81 fu fu R v1 v2 ((R.2.1 (ix 1)) + (R.2.1 (ix 2))) 0
def f_R_explains_L24 (fu : Nat) : Nat → S_R → Int32 → Int32 → Int32 → Option (Int32 × S_R)
  | 0, _, _, _, _ => none
  | n + 1, R, v1, v2, v3 =>
    ck (inb 0 3) <|
    if (R.2.1 (ix 0)) ≤ v3 then
      f_R_explains_L64 fu R v1 v2
    else
      bd (f_R_right fu R v3) fun (r36, R_36) =>
      ck (inb v3 14) <|
      if r36 = (R_36.2.2.2.2.2.2.2.2.2.2.2.2.2.2.2.1 (ix v3)) then
        if v2 = 0 then
          f_R_explains_L24 fu n R_36 v1 0 (v3 + 1)
        else
          f_R_explains_L24 fu n R_36 v1 1 (v3 + 1)
      else
        f_R_explains_L24 fu n R_36 v1 0 (v3 + 1)
def f_R_explains_L2 (fu : Nat) : Nat → S_R → Int32 → Int32 → Option (Int32 × S_R)
  | 0, _, _, _ => none
  | n + 1, R, v1, v2 =>
    if 3 ≤ v2 then
      f_R_explains_L24 fu fu R v1 1 0
    else
      ck (inb v2 3) <|
      f_R_explains_L2 fu n (R.1, R.2.1, R.2.2.1, R.2.2.2.1, R.2.2.2.2.1, R.2.2.2.2.2.1, R.2.2.2.2.2.2.1, R.2.2.2.2.2.2.2.1, R.2.2.2.2.2.2.2.2.1, (upd R.2.2.2.2.2.2.2.2.2.1 (ix v2) 0), R.2.2.2.2.2.2.2.2.2.2) v1 (v2 + 1)
def f_R_explains (fu : Nat) (R : S_R) (a1 : Int32) : Option (Int32 × S_R) :=
  f_R_explains_L2 fu fu R a1 0
def f_R_judged_L122 (fu : Nat) (R : S_R) : Option (Int32 × S_R) :=
  if R.2.2.2.2.2.2.2.2.2.2.2.2.2.2.1 = 0 then
    ck (isB R.2.2.2.2.2.2.2.2.2.2.2.2.2.2.1) <|
    some (R.2.2.2.2.2.2.2.2.2.2.2.2.2.2.1, (R.1, R.2.1, R.2.2.1, R.2.2.2.1, R.2.2.2.2.1, R.2.2.2.2.2.1, R.2.2.2.2.2.2.1, R.2.2.2.2.2.2.2.1, R.2.2.2.2.2.2.2.2.1, R.2.2.2.2.2.2.2.2.2.1, R.2.2.2.2.2.2.2.2.2.2.1, R.2.2.2.2.2.2.2.2.2.2.2.1, R.2.2.2.2.2.2.2.2.2.2.2.2.1, R.2.2.2.2.2.2.2.2.2.2.2.2.2.1, R.2.2.2.2.2.2.2.2.2.2.2.2.2.2.1, R.2.2.2.2.2.2.2.2.2.2.2.2.2.2.2.1, R.2.2.2.2.2.2.2.2.2.2.2.2.2.2.2.2.1, R.2.2.2.2.2.2.2.2.2.2.2.2.2.2.2.2.2.1, R.2.2.2.2.2.2.2.2.2.2.2.2.2.2.2.2.2.2.1, R.2.2.2.2.2.2.2.2.2.2.2.2.2.2.2.2.2.2.2.1, R.2.2.2.2.2.2.2.2.2.2.2.2.2.2.2.2.2.2.2.2.1, R.2.2.2.2.2.2.2.2.2.2.2.2.2.2.2.2.2.2.2.2.2.1, R.2.2.2.2.2.2.2.2.2.2.2.2.2.2.2.2.2.2.2.2.2.2.1, R.2.2.2.2.2.2.2.2.2.2.2.2.2.2.2.2.2.2.2.2.2.2.2.1, R.2.2.2.2.2.2.2.2.2.2.2.2.2.2.2.2.2.2.2.2.2.2.2.2.1 + 1, R.2.2.2.2.2.2.2.2.2.2.2.2.2.2.2.2.2.2.2.2.2.2.2.2.2))
  else
    ck (isB R.2.2.2.2.2.2.2.2.2.2.2.2.2.2.1) <|
    some (R.2.2.2.2.2.2.2.2.2.2.2.2.2.2.1, (R.1, R.2.1, R.2.2.1, R.2.2.2.1, R.2.2.2.2.1, R.2.2.2.2.2.1, R.2.2.2.2.2.2.1, R.2.2.2.2.2.2.2.1, R.2.2.2.2.2.2.2.2.1, R.2.2.2.2.2.2.2.2.2.1, R.2.2.2.2.2.2.2.2.2.2.1, R.2.2.2.2.2.2.2.2.2.2.2.1, R.2.2.2.2.2.2.2.2.2.2.2.2.1, R.2.2.2.2.2.2.2.2.2.2.2.2.2.1, R.2.2.2.2.2.2.2.2.2.2.2.2.2.2.1, R.2.2.2.2.2.2.2.2.2.2.2.2.2.2.2.1, R.2.2.2.2.2.2.2.2.2.2.2.2.2.2.2.2.1, R.2.2.2.2.2.2.2.2.2.2.2.2.2.2.2.2.2.1, R.2.2.2.2.2.2.2.2.2.2.2.2.2.2.2.2.2.2.1, R.2.2.2.2.2.2.2.2.2.2.2.2.2.2.2.2.2.2.2.1, R.2.2.2.2.2.2.2.2.2.2.2.2.2.2.2.2.2.2.2.2.1, R.2.2.2.2.2.2.2.2.2.2.2.2.2.2.2.2.2.2.2.2.2.1, R.2.2.2.2.2.2.2.2.2.2.2.2.2.2.2.2.2.2.2.2.2.2.1, R.2.2.2.2.2.2.2.2.2.2.2.2.2.2.2.2.2.2.2.2.2.2.2.1, R.2.2.2.2.2.2.2.2.2.2.2.2.2.2.2.2.2.2.2.2.2.2.2.2.1 + 0, R.2.2.2.2.2.2.2.2.2.2.2.2.2.2.2.2.2.2.2.2.2.2.2.2.2))
def f_R_judged_L74 (fu : Nat) : Nat → S_R → Int32 → Int32 → Option (Int32 × S_R)
  | 0, _, _, _ => none
  | n + 1, R, v2, v3 =>
    if v2 ≤ v3 then
      f_R_judged_L122 fu R
    else
      if R.2.2.2.2.2.2.2.2.2.2.2.2.2.2.1 = 0 then
        bd (f_R_isOrder fu R v3) fun r89 =>
        if r89 = 0 then
          ck (isB 0) <|
          f_R_judged_L74 fu n (R.1, R.2.1, R.2.2.1, R.2.2.2.1, R.2.2.2.2.1, R.2.2.2.2.2.1, R.2.2.2.2.2.2.1, R.2.2.2.2.2.2.2.1, R.2.2.2.2.2.2.2.2.1, R.2.2.2.2.2.2.2.2.2.1, R.2.2.2.2.2.2.2.2.2.2.1, R.2.2.2.2.2.2.2.2.2.2.2.1, R.2.2.2.2.2.2.2.2.2.2.2.2.1, R.2.2.2.2.2.2.2.2.2.2.2.2.2.1, 0, R.2.2.2.2.2.2.2.2.2.2.2.2.2.2.2.1, R.2.2.2.2.2.2.2.2.2.2.2.2.2.2.2.2.1, R.2.2.2.2.2.2.2.2.2.2.2.2.2.2.2.2.2.1, R.2.2.2.2.2.2.2.2.2.2.2.2.2.2.2.2.2.2.1, R.2.2.2.2.2.2.2.2.2.2.2.2.2.2.2.2.2.2.2.1, R.2.2.2.2.2.2.2.2.2.2.2.2.2.2.2.2.2.2.2.2.1, R.2.2.2.2.2.2.2.2.2.2.2.2.2.2.2.2.2.2.2.2.2.1, v3, R.2.2.2.2.2.2.2.2.2.2.2.2.2.2.2.2.2.2.2.2.2.2.2) v2 (v3 + 1)
        else
          bd (f_R_explains fu R v3) fun (r97, R_97) =>
          if r97 = 0 then
            ck (isB 0) <|
            f_R_judged_L74 fu n (R_97.1, R_97.2.1, R_97.2.2.1, R_97.2.2.2.1, R_97.2.2.2.2.1, R_97.2.2.2.2.2.1, R_97.2.2.2.2.2.2.1, R_97.2.2.2.2.2.2.2.1, R_97.2.2.2.2.2.2.2.2.1, R_97.2.2.2.2.2.2.2.2.2.1, R_97.2.2.2.2.2.2.2.2.2.2.1, R_97.2.2.2.2.2.2.2.2.2.2.2.1, R_97.2.2.2.2.2.2.2.2.2.2.2.2.1, R_97.2.2.2.2.2.2.2.2.2.2.2.2.2.1, 0, R_97.2.2.2.2.2.2.2.2.2.2.2.2.2.2.2.1, R_97.2.2.2.2.2.2.2.2.2.2.2.2.2.2.2.2.1, R_97.2.2.2.2.2.2.2.2.2.2.2.2.2.2.2.2.2.1, R_97.2.2.2.2.2.2.2.2.2.2.2.2.2.2.2.2.2.2.1, R_97.2.2.2.2.2.2.2.2.2.2.2.2.2.2.2.2.2.2.2.1, R_97.2.2.2.2.2.2.2.2.2.2.2.2.2.2.2.2.2.2.2.2.1, R_97.2.2.2.2.2.2.2.2.2.2.2.2.2.2.2.2.2.2.2.2.2.1, v3, R_97.2.2.2.2.2.2.2.2.2.2.2.2.2.2.2.2.2.2.2.2.2.2.2) v2 (v3 + 1)
          else
            ck (isB 1) <|
            f_R_judged_L74 fu n (R_97.1, R_97.2.1, R_97.2.2.1, R_97.2.2.2.1, R_97.2.2.2.2.1, R_97.2.2.2.2.2.1, R_97.2.2.2.2.2.2.1, R_97.2.2.2.2.2.2.2.1, R_97.2.2.2.2.2.2.2.2.1, R_97.2.2.2.2.2.2.2.2.2.1, R_97.2.2.2.2.2.2.2.2.2.2.1, R_97.2.2.2.2.2.2.2.2.2.2.2.1, R_97.2.2.2.2.2.2.2.2.2.2.2.2.1, R_97.2.2.2.2.2.2.2.2.2.2.2.2.2.1, 1, R_97.2.2.2.2.2.2.2.2.2.2.2.2.2.2.2.1, R_97.2.2.2.2.2.2.2.2.2.2.2.2.2.2.2.2.1, R_97.2.2.2.2.2.2.2.2.2.2.2.2.2.2.2.2.2.1, R_97.2.2.2.2.2.2.2.2.2.2.2.2.2.2.2.2.2.2.1, R_97.2.2.2.2.2.2.2.2.2.2.2.2.2.2.2.2.2.2.2.1, R_97.2.2.2.2.2.2.2.2.2.2.2.2.2.2.2.2.2.2.2.2.1, R_97.2.2.2.2.2.2.2.2.2.2.2.2.2.2.2.2.2.2.2.2.2.1, v3, R_97.2.2.2.2.2.2.2.2.2.2.2.2.2.2.2.2.2.2.2.2.2.2.2) v2 (v3 + 1)
      else
        f_R_judged_L122 fu R
def f_R_judged_L51 (fu : Nat) (R : S_R) : Option (Int32 × S_R) :=
  ck (isB 0) <|
  ck (inb 1 3) <|
  ck (inb 2 3) <|
  f_R_judged_L74 fu fu (R.1, R.2.1, R.2.2.1, R.2.2.2.1, R.2.2.2.2.1, R.2.2.2.2.2.1, R.2.2.2.2.2.2.1, R.2.2.2.2.2.2.2.1, R.2.2.2.2.2.2.2.2.1, R.2.2.2.2.2.2.2.2.2.1, R.2.2.2.2.2.2.2.2.2.2.1, R.2.2.2.2.2.2.2.2.2.2.2.1, R.2.2.2.2.2.2.2.2.2.2.2.2.1, R.2.2.2.2.2.2.2.2.2.2.2.2.2.1, 0, R.2.2.2.2.2.2.2.2.2.2.2.2.2.2.2) (1 <<< (((R.2.1 (ix 1)) + (R.2.1 (ix 2))) &&& 31)) 0
def f_R_judged_L22 (fu : Nat) : Nat → S_R → Int32 → Option (Int32 × S_R)
  | 0, _, _ => none
  | n + 1, R, v2 =>
    bd (f_R_many fu R) fun r24 =>
    if r24 ≤ v2 then
      f_R_judged_L51 fu R
    else
      ck (inb v2 14) <|
      ck (inb (R.2.2.1 (ix v2)) 7) <|
      ck (inb (R.2.2.1 (ix v2)) 7) <|
      f_R_judged_L22 fu n (R.1, R.2.1, R.2.2.1, R.2.2.2.1, R.2.2.2.2.1, R.2.2.2.2.2.1, R.2.2.2.2.2.2.1, R.2.2.2.2.2.2.2.1, R.2.2.2.2.2.2.2.2.1, R.2.2.2.2.2.2.2.2.2.1, R.2.2.2.2.2.2.2.2.2.2.1, R.2.2.2.2.2.2.2.2.2.2.2.1, R.2.2.2.2.2.2.2.2.2.2.2.2.1, R.2.2.2.2.2.2.2.2.2.2.2.2.2.1, R.2.2.2.2.2.2.2.2.2.2.2.2.2.2.1, R.2.2.2.2.2.2.2.2.2.2.2.2.2.2.2.1, R.2.2.2.2.2.2.2.2.2.2.2.2.2.2.2.2.1, R.2.2.2.2.2.2.2.2.2.2.2.2.2.2.2.2.2.1, R.2.2.2.2.2.2.2.2.2.2.2.2.2.2.2.2.2.2.1, R.2.2.2.2.2.2.2.2.2.2.2.2.2.2.2.2.2.2.2.1, R.2.2.2.2.2.2.2.2.2.2.2.2.2.2.2.2.2.2.2.2.1, R.2.2.2.2.2.2.2.2.2.2.2.2.2.2.2.2.2.2.2.2.2.1, R.2.2.2.2.2.2.2.2.2.2.2.2.2.2.2.2.2.2.2.2.2.2.1, R.2.2.2.2.2.2.2.2.2.2.2.2.2.2.2.2.2.2.2.2.2.2.2.1, R.2.2.2.2.2.2.2.2.2.2.2.2.2.2.2.2.2.2.2.2.2.2.2.2.1, R.2.2.2.2.2.2.2.2.2.2.2.2.2.2.2.2.2.2.2.2.2.2.2.2.2.1, R.2.2.2.2.2.2.2.2.2.2.2.2.2.2.2.2.2.2.2.2.2.2.2.2.2.2.1, (upd R.2.2.2.2.2.2.2.2.2.2.2.2.2.2.2.2.2.2.2.2.2.2.2.2.2.2.2 (ix (R.2.2.1 (ix v2))) ((R.2.2.2.2.2.2.2.2.2.2.2.2.2.2.2.2.2.2.2.2.2.2.2.2.2.2.2 (ix (R.2.2.1 (ix v2)))) + 1))) (v2 + 1)
def f_R_judged (fu : Nat) (R : S_R) (a1 : Int32) : Option (Int32 × S_R) :=
  bd (f_R_go fu R a1) fun R_2 =>
  ck (isB 1) <|
  f_R_judged_L22 fu fu (R_2.1, R_2.2.1, R_2.2.2.1, R_2.2.2.2.1, R_2.2.2.2.2.1, R_2.2.2.2.2.2.1, R_2.2.2.2.2.2.2.1, R_2.2.2.2.2.2.2.2.1, R_2.2.2.2.2.2.2.2.2.1, R_2.2.2.2.2.2.2.2.2.2.1, R_2.2.2.2.2.2.2.2.2.2.2.1, R_2.2.2.2.2.2.2.2.2.2.2.2.1, R_2.2.2.2.2.2.2.2.2.2.2.2.2.1, 1, R_2.2.2.2.2.2.2.2.2.2.2.2.2.2.2.1, R_2.2.2.2.2.2.2.2.2.2.2.2.2.2.2.2.1, R_2.2.2.2.2.2.2.2.2.2.2.2.2.2.2.2.2.1, R_2.2.2.2.2.2.2.2.2.2.2.2.2.2.2.2.2.2.1, R_2.2.2.2.2.2.2.2.2.2.2.2.2.2.2.2.2.2.2.1, R_2.2.2.2.2.2.2.2.2.2.2.2.2.2.2.2.2.2.2.2.1, R_2.2.2.2.2.2.2.2.2.2.2.2.2.2.2.2.2.2.2.2.2.1, R_2.2.2.2.2.2.2.2.2.2.2.2.2.2.2.2.2.2.2.2.2.2.1, R_2.2.2.2.2.2.2.2.2.2.2.2.2.2.2.2.2.2.2.2.2.2.2.1, R_2.2.2.2.2.2.2.2.2.2.2.2.2.2.2.2.2.2.2.2.2.2.2.2.1 + 1, R_2.2.2.2.2.2.2.2.2.2.2.2.2.2.2.2.2.2.2.2.2.2.2.2.2) 0
def f_R_run (fu : Nat) (R : S_R) (a1 : Int32) : Option (Int32 × S_R) :=
  if 0 ≤ a1 then
    bd (f_R_judged fu (0, R.2) a1) fun (r25, R_25) =>
    ck (isB r25) <|
    some (r25, R_25)
  else
    bd (f_R_fail fu (0, R.2) 1) fun (r11, R_11) =>
    if r11 ≤ 0 then
      ck (isB 0) <|
      some (0, R_11)
    else
      ck (isB 1) <|
      some (1, R_11)
def f_R_failed_L8 (fu : Nat) : Nat → S_R → Int32 → Int32 → Option (Int32 × S_R)
  | 0, _, _, _ => none
  | n + 1, R, v3, v4 =>
    if v3 ≤ v4 then
      some ((-1), R)
    else
      bd (f_R_drawn fu R 2147483647) fun (r17, R_17) =>
      bd (f_R_judged fu R_17 r17) fun (r25, R_25) =>
      if r25 = 0 then
        some (v4, (R_25.1, R_25.2.1, R_25.2.2.1, R_25.2.2.2.1, R_25.2.2.2.2.1, R_25.2.2.2.2.2.1, R_25.2.2.2.2.2.2.1, R_25.2.2.2.2.2.2.2.1, R_25.2.2.2.2.2.2.2.2.1, R_25.2.2.2.2.2.2.2.2.2.1, R_25.2.2.2.2.2.2.2.2.2.2.1, R_25.2.2.2.2.2.2.2.2.2.2.2.1, R_25.2.2.2.2.2.2.2.2.2.2.2.2.1, R_25.2.2.2.2.2.2.2.2.2.2.2.2.2.1, R_25.2.2.2.2.2.2.2.2.2.2.2.2.2.2.1, R_25.2.2.2.2.2.2.2.2.2.2.2.2.2.2.2.1, R_25.2.2.2.2.2.2.2.2.2.2.2.2.2.2.2.2.1, R_25.2.2.2.2.2.2.2.2.2.2.2.2.2.2.2.2.2.1, R_25.2.2.2.2.2.2.2.2.2.2.2.2.2.2.2.2.2.2.1, R_25.2.2.2.2.2.2.2.2.2.2.2.2.2.2.2.2.2.2.2.1, R_25.2.2.2.2.2.2.2.2.2.2.2.2.2.2.2.2.2.2.2.2.1, R_25.2.2.2.2.2.2.2.2.2.2.2.2.2.2.2.2.2.2.2.2.2.1, R_25.2.2.2.2.2.2.2.2.2.2.2.2.2.2.2.2.2.2.2.2.2.2.1, R_25.2.2.2.2.2.2.2.2.2.2.2.2.2.2.2.2.2.2.2.2.2.2.2.1, R_25.2.2.2.2.2.2.2.2.2.2.2.2.2.2.2.2.2.2.2.2.2.2.2.2.1, R_25.2.2.2.2.2.2.2.2.2.2.2.2.2.2.2.2.2.2.2.2.2.2.2.2.2.1, r17, R_25.2.2.2.2.2.2.2.2.2.2.2.2.2.2.2.2.2.2.2.2.2.2.2.2.2.2.2))
      else
        f_R_failed_L8 fu n R_25 v3 (v4 + 1)
def f_R_failed (fu : Nat) (R : S_R) (a1 : Int64) (a3 : Int32) : Option (Int32 × S_R) :=
  f_R_failed_L8 fu fu (R.1, R.2.1, R.2.2.1, R.2.2.2.1, R.2.2.2.2.1, R.2.2.2.2.2.1, R.2.2.2.2.2.2.1, R.2.2.2.2.2.2.2.1, a1, R.2.2.2.2.2.2.2.2.2) a3 0
def f_R_fails (fu : Nat) (R : S_R) (a1 : Int64) (a3 : Int32) : Option (Int32 × S_R) :=
  bd (f_R_within fu a3 1 50) fun r9 =>
  if r9 = 0 then
    bd (f_R_fail fu (0, R.2) 1) fun (r26, R_26) =>
    some (r26, R_26)
  else
    bd (f_R_failed fu (0, R.2) a1 a3) fun (r18, R_18) =>
    some (r18, R_18)
def f_R_takes (fu : Nat) (R : S_R) (a1 : Int32) (a2 : Int64) (a4 : Int32) : Option (Int32 × S_R) :=
  if a1 = 0 then
    bd (f_R_putBack fu R) fun R_24 =>
    ck (isB 0) <|
    some (0, R_24)
  else
    bd (f_R_valid fu R) fun (r5, R_5) =>
    if r5 = 0 then
      bd (f_R_putBack fu R_5) fun R_24 =>
      ck (isB 0) <|
      some (0, R_24)
    else
      bd (f_R_failed fu R_5 a2 a4) fun (r15, R_15) =>
      if r15 < 0 then
        bd (f_R_putBack fu R_15) fun R_24 =>
        ck (isB 0) <|
        some (0, R_24)
      else
        ck (isB 1) <|
        some (1, R_15)
def f_R_smaller_L122 (fu : Nat) (k101 : S_R → Int64 → Int32 → Int32 → Option (Int32 × S_R)) : Nat → S_R → Int64 → Int32 → Int32 → Int32 → Int32 → Option (Int32 × S_R)
  | 0, _, _, _, _, _, _ => none
  | n + 1, R, v1, v3, v4, v5, v6 =>
    if 2 ≤ v6 then
      k101 R v1 v3 (v4 + 1)
    else
      if 8 ≤ v5 then
        f_R_smaller_L122 fu k101 n R v1 v3 v4 v5 (v6 + 1)
      else
        if v5 ≤ v6 then
          f_R_smaller_L122 fu k101 n R v1 v3 v4 v5 (v6 + 1)
        else
          ck (nz 2) <|
          ck (inb v4 14) <|
          bd (f_R_takes fu (R.1, R.2.1, R.2.2.1, R.2.2.2.1, (upd R.2.2.2.2.1 (ix v4) ((v6 * v5) / 2)), R.2.2.2.2.2) 1 v1 v3) fun (r160, R_160) =>
          if r160 = 0 then
            f_R_smaller_L122 fu k101 n R_160 v1 v3 v4 v5 (v6 + 1)
          else
            ck (isB 1) <|
            some (1, R_160)
def f_R_smaller_L101 (fu : Nat) : Nat → S_R → Int64 → Int32 → Int32 → Option (Int32 × S_R)
  | 0, _, _, _, _ => none
  | n + 1, R, v1, v3, v4 =>
    bd (f_R_many fu R) fun r104 =>
    if r104 ≤ v4 then
      ck (isB 0) <|
      some (0, R)
    else
      ck (inb v4 14) <|
      f_R_smaller_L122 fu (f_R_smaller_L101 fu n) fu R v1 v3 v4 (R.2.2.2.2.1 (ix v4)) 0
def f_R_smaller_L47 (fu : Nat) : Nat → S_R → Int64 → Int32 → Int32 → Option (Int32 × S_R)
  | 0, _, _, _, _ => none
  | n + 1, R, v1, v3, v4 =>
    if 3 ≤ v4 then
      f_R_smaller_L101 fu fu R v1 v3 0
    else
      ck (inb v4 3) <|
      if (R.2.1 (ix v4)) ≤ 0 then
        f_R_smaller_L47 fu n R v1 v3 (v4 + 1)
      else
        ck (inb 0 3) <|
        if 6 ≤ (R.2.1 (ix 0)) then
          f_R_smaller_L47 fu n R v1 v3 (v4 + 1)
        else
          bd (f_R_raise fu R v4) fun R_77 =>
          bd (f_R_takes fu R_77 1 v1 v3) fun (r84, R_84) =>
          if r84 = 0 then
            f_R_smaller_L47 fu n R_84 v1 v3 (v4 + 1)
          else
            ck (isB 1) <|
            some (1, R_84)
def f_R_smaller_L12 (fu : Nat) : Nat → S_R → Int64 → Int32 → Int32 → Option (Int32 × S_R)
  | 0, _, _, _, _ => none
  | n + 1, R, v1, v3, v4 =>
    if v4 < 0 then
      f_R_smaller_L47 fu fu R v1 v3 1
    else
      bd (f_R_leaveOut fu R v4) fun (r20, R_20) =>
      bd (f_R_takes fu R_20 r20 v1 v3) fun (r30, R_30) =>
      if r30 = 0 then
        f_R_smaller_L12 fu n R_30 v1 v3 (v4 + (-1))
      else
        ck (isB 1) <|
        some (1, R_30)
def f_R_smaller (fu : Nat) (R : S_R) (a1 : Int64) (a3 : Int32) : Option (Int32 × S_R) :=
  bd (f_R_keep fu R) fun R_1 =>
  bd (f_R_many fu R_1) fun r5 =>
  f_R_smaller_L12 fu fu R_1 a1 a3 (r5 - 1)
def f_R_shrink_L54 (fu : Nat) (R : S_R) (v4 : Int32) : Option (Int32 × S_R) :=
  bd (f_R_judged fu (R.1, R.2.1, R.2.2.1, R.2.2.2.1, R.2.2.2.2.1, R.2.2.2.2.2.1, R.2.2.2.2.2.2.1, R.2.2.2.2.2.2.2.1, R.2.2.2.2.2.2.2.2.1, R.2.2.2.2.2.2.2.2.2.1, R.2.2.2.2.2.2.2.2.2.2.1, R.2.2.2.2.2.2.2.2.2.2.2.1, R.2.2.2.2.2.2.2.2.2.2.2.2.1, R.2.2.2.2.2.2.2.2.2.2.2.2.2.1, R.2.2.2.2.2.2.2.2.2.2.2.2.2.2.1, R.2.2.2.2.2.2.2.2.2.2.2.2.2.2.2.1, R.2.2.2.2.2.2.2.2.2.2.2.2.2.2.2.2.1, R.2.2.2.2.2.2.2.2.2.2.2.2.2.2.2.2.2.1, R.2.2.2.2.2.2.2.2.2.2.2.2.2.2.2.2.2.2.1, R.2.2.2.2.2.2.2.2.2.2.2.2.2.2.2.2.2.2.2.1, R.2.2.2.2.2.2.2.2.2.2.2.2.2.2.2.2.2.2.2.2.1, R.2.2.2.2.2.2.2.2.2.2.2.2.2.2.2.2.2.2.2.2.2.1, R.2.2.2.2.2.2.2.2.2.2.2.2.2.2.2.2.2.2.2.2.2.2.1, R.2.2.2.2.2.2.2.2.2.2.2.2.2.2.2.2.2.2.2.2.2.2.2.1, R.2.2.2.2.2.2.2.2.2.2.2.2.2.2.2.2.2.2.2.2.2.2.2.2.1, R.2.2.2.2.2.2.2.2.2.2.2.2.2.2.2.2.2.2.2.2.2.2.2.2.2.1 + v4, R.2.2.2.2.2.2.2.2.2.2.2.2.2.2.2.2.2.2.2.2.2.2.2.2.2.2) R.2.2.2.2.2.2.2.2.2.2.2.2.2.2.2.2.2.2.2.2.2.2.2.2.2.2.1) fun (r70, R_70) =>
  some (v4, R_70)
def f_R_shrink_L39 (fu : Nat) : Nat → S_R → Int64 → Int32 → Int32 → Option (Int32 × S_R)
  | 0, _, _, _, _ => none
  | n + 1, R, v1, v3, v4 =>
    bd (f_R_smaller fu R v1 v3) fun (r42, R_42) =>
    if r42 = 0 then
      f_R_shrink_L54 fu R_42 v4
    else
      f_R_shrink_L39 fu n R_42 v1 v3 (v4 + 1)
def f_R_shrink (fu : Nat) (R : S_R) (a1 : Int64) (a3 : Int32) : Option (Int32 × S_R) :=
  bd (f_R_within fu a3 1 50) fun r9 =>
  if r9 = 0 then
    bd (f_R_fail fu (0, R.2) 1) fun (r17, R_17) =>
    some (r17, R_17)
  else
    bd (f_R_failed fu (0, R.2) a1 a3) fun (r24, R_24) =>
    if 0 ≤ r24 then
      f_R_shrink_L39 fu fu R_24 a1 a3 0
    else
      bd (f_R_fail fu R_24 2) fun (r32, R_32) =>
      some (r32, R_32)
def f_R_command (fu : Nat) (R : S_R) (a1 : Int32) (a2 : Int32) : Option (Int32 × S_R) :=
  bd (f_R_many fu (0, R.2)) fun r8 =>
  bd (f_R_within fu a1 0 (r8 - 1)) fun r13 =>
  if r13 = 0 then
    bd (f_R_fail fu (0, R.2) 1) fun (r30, R_30) =>
    some (r30, R_30)
  else
    bd (f_R_within fu a2 0 3) fun r22 =>
    if r22 = 0 then
      bd (f_R_fail fu (0, R.2) 1) fun (r30, R_30) =>
      some (r30, R_30)
    else
      if a2 = 0 then
        bd (f_R_branch fu (0, R.2) a1) fun r40 =>
        some (r40, (0, R.2))
      else
        if a2 = 1 then
          ck (inb a1 14) <|
          some (R.2.2.1 (ix a1), (0, R.2))
        else
          if a2 = 2 then
            ck (inb a1 14) <|
            some (R.2.2.2.1 (ix a1), (0, R.2))
          else
            ck (inb a1 14) <|
            some (R.2.2.2.2.1 (ix a1), (0, R.2))
def f_R_event (fu : Nat) (R : S_R) (a1 : Int32) (a2 : Int32) : Option (Int32 × S_R) :=
  bd (f_R_many fu (0, R.2)) fun r8 =>
  bd (f_R_within fu a1 0 (r8 - 1)) fun r13 =>
  if r13 = 0 then
    bd (f_R_fail fu (0, R.2) 1) fun (r30, R_30) =>
    some (r30, R_30)
  else
    bd (f_R_within fu a2 0 3) fun r22 =>
    if r22 = 0 then
      bd (f_R_fail fu (0, R.2) 1) fun (r30, R_30) =>
      some (r30, R_30)
    else
      if R.2.2.2.2.2.2.2.2.2.2.2.2.2.1 = 0 then
        bd (f_R_fail fu (0, R.2) 2) fun (r43, R_43) =>
        some (r43, R_43)
      else
        if a2 = 0 then
          ck (inb a1 14) <|
          some (R.2.2.2.2.2.2.2.2.2.2.2.2.2.2.2.1 (ix a1), (0, R.2))
        else
          if a2 = 1 then
            ck (inb a1 14) <|
            some (R.2.2.2.2.2.2.2.2.2.2.2.2.2.2.2.2.1 (ix a1), (0, R.2))
          else
            if a2 = 2 then
              ck (inb a1 14) <|
              some (R.2.2.2.2.2.2.2.2.2.2.2.2.2.2.2.2.2.1 (ix a1), (0, R.2))
            else
              ck (inb a1 14) <|
              some (R.2.2.2.2.2.2.2.2.2.2.2.2.2.2.2.2.2.2.1 (ix a1), (0, R.2))
def f_R_order (fu : Nat) (R : S_R) (a1 : Int32) : Option (Int32 × S_R) :=
  if R.2.2.2.2.2.2.2.2.2.2.2.2.2.1 = 0 then
    bd (f_R_fail fu (0, R.2) 1) fun (r14, R_14) =>
    some (r14, R_14)
  else
    if R.2.2.2.2.2.2.2.2.2.2.2.2.2.2.1 = 0 then
      bd (f_R_fail fu (0, R.2) 2) fun (r62, R_62) =>
      some (r62, R_62)
    else
      ck (inb 1 3) <|
      ck (inb 2 3) <|
      bd (f_R_within fu a1 0 (((R.2.1 (ix 1)) + (R.2.1 (ix 2))) - 1)) fun r42 =>
      if r42 = 0 then
        bd (f_R_fail fu (0, R.2) 2) fun (r62, R_62) =>
        some (r62, R_62)
      else
        bd (f_R_placed fu (0, R.2) R.2.2.2.2.2.2.2.2.2.2.2.2.2.2.2.2.2.2.2.2.2.2.1 a1) fun r54 =>
        some (r54, (0, R.2))
def f_R_cell (fu : Nat) (R : S_R) (a1 : Int32) : Option (Int32 × S_R) :=
  bd (f_R_within fu a1 0 2) fun r8 =>
  if r8 = 0 then
    bd (f_R_fail fu (0, R.2) 1) fun (r16, R_16) =>
    some (r16, R_16)
  else
    if R.2.2.2.2.2.2.2.2.2.2.2.2.2.1 = 0 then
      bd (f_R_fail fu (0, R.2) 2) fun (r54, R_54) =>
      some (r54, R_54)
    else
      ck (inb a1 3) <|
      ck (inb a1 3) <|
      if (R.2.2.2.2.2.2.2.2.2.2.2.2.1 (ix a1)) = 0 then
        some ((R.2.2.2.2.2.2.2.2.2.2.2.1 (ix a1)) + 0, (0, R.2))
      else
        some ((R.2.2.2.2.2.2.2.2.2.2.2.1 (ix a1)) + 8, (0, R.2))
def f_R_count (fu : Nat) (R : S_R) (a1 : Int32) : Option (Int32 × S_R) :=
  bd (f_R_within fu a1 0 3) fun r8 =>
  if r8 = 0 then
    bd (f_R_fail fu (0, R.2) 1) fun (r16, R_16) =>
    some (r16, R_16)
  else
    if a1 = 0 then
      bd (f_R_many fu (0, R.2)) fun r25 =>
      some (r25, (0, R.2))
    else
      if a1 = 1 then
        some (R.2.2.2.2.2.2.2.2.2.2.2.2.2.2.2.2.2.2.2.2.2.2.2.1, (0, R.2))
      else
        if a1 = 2 then
          some (R.2.2.2.2.2.2.2.2.2.2.2.2.2.2.2.2.2.2.2.2.2.2.2.2.1, (0, R.2))
        else
          some (R.2.2.2.2.2.2.2.2.2.2.2.2.2.2.2.2.2.2.2.2.2.2.2.2.2.1, (0, R.2))
def f_R_tally (fu : Nat) (R : S_R) (a1 : Int32) : Option (Int32 × S_R) :=
  bd (f_R_within fu a1 0 6) fun r9 =>
  if r9 = 0 then
    bd (f_R_fail fu (0, R.2) 1) fun (r26, R_26) =>
    some (r26, R_26)
  else
    ck (inb a1 7) <|
    some (R.2.2.2.2.2.2.2.2.2.2.2.2.2.2.2.2.2.2.2.2.2.2.2.2.2.2.2 (ix a1), (0, R.2))
def f_M_numberOf (fu : Nat) (M : S_M) (a1 : Int32) : Option (Int32) :=
  if 8 ≤ a1 then
    ck (inb (a1 - 8) 14) <|
    some (M.1 (ix (a1 - 8)))
  else
    some a1
def f_M_isSplit (fu : Nat) (M : S_M) (a1 : Int32) : Option (Int32) :=
  if a1 = 4 then
    if (M.2.2.2.2.2.2.2.2 &&& 1) = 0 then
      ck (isB 0) <|
      some 0
    else
      ck (isB 1) <|
      some 1
  else
  if a1 = 5 then
    if (M.2.2.2.2.2.2.2.2 &&& 2) = 0 then
      ck (isB 0) <|
      some 0
    else
      ck (isB 1) <|
      some 1
  else
  if a1 = 6 then
    if (M.2.2.2.2.2.2.2.2 &&& 4) = 0 then
      ck (isB 0) <|
      some 0
    else
      ck (isB 1) <|
      some 1
  else
  ck (isB 0) <|
  some 0
def f_M_isLate (fu : Nat) (M : S_M) (a1 : Int32) : Option (Int32) :=
  if a1 = 3 then
    if (M.2.2.2.2.2.2.2.2 &&& 8) = 0 then
      ck (isB 0) <|
      some 0
    else
      ck (isB 1) <|
      some 1
  else
    ck (isB 0) <|
    some 0
def f_M_act (fu : Nat) (M : S_M) (a1 : Int32) (a2 : Int32) (a3 : Int32) : Option (S_M) :=
  ck (inb a1 14) <|
  bd (f_O_answer fu M.2.2.2.2.1 a2 a3 (M.2.1 (ix a1))) fun r17 =>
  ck (inb a1 14) <|
  bd (f_M_isLate fu ((upd M.1 (ix a1) r17), M.2) a2) fun r23 =>
  if r23 = 0 then
    ck (inb a1 14) <|
    bd (f_O_after fu M.2.2.2.2.1 a2 a3 (M.2.1 (ix a1))) fun r42 =>
    some (((upd M.1 (ix a1) r17), M.2.1, M.2.2.1, M.2.2.2.1, r42, M.2.2.2.2.2))
  else
    some (((upd M.1 (ix a1) r17), M.2))
def f_M_actByNote (fu : Nat) (M : S_M) (a1 : Int32) (a2 : Int32) (a3 : Int32) (a4 : Int32) : Option (S_M) :=
  if a2 = 4 then
    ck (inb a1 14) <|
    ck (nz 8) <|
    ck (inb a1 14) <|
    bd (f_O_after fu M.2.2.2.2.1 3 a3 ((a4 + (M.2.1 (ix a1))) - (a4 + (M.2.1 (ix a1))) / 8 * 8)) fun r99 =>
    some (((upd M.1 (ix a1) ((a4 + (M.2.1 (ix a1))) - (a4 + (M.2.1 (ix a1))) / 8 * 8)), M.2.1, M.2.2.1, M.2.2.2.1, r99, M.2.2.2.2.2))
  else
  if a2 = 5 then
    ck (inb a1 14) <|
    ck (inb a1 14) <|
    bd (f_O_after fu M.2.2.2.2.1 3 a3 (M.2.1 (ix a1))) fun r99 =>
    some (((upd M.1 (ix a1) a4), M.2.1, M.2.2.1, M.2.2.2.1, r99, M.2.2.2.2.2))
  else
  bd (f_O_held fu M.2.2.2.2.1 a3) fun r86 =>
  ck (inb a1 14) <|
  bd (f_O_after fu M.2.2.2.2.1 3 a3 a4) fun r99 =>
  some (((upd M.1 (ix a1) r86), M.2.1, M.2.2.1, M.2.2.2.1, r99, M.2.2.2.2.2))
def f_M_step_L228 (fu : Nat) (P1 : S_P) (M : S_M) (v2 : Int32) (v4 : Int32) (v5 : Int32) (s1 : Int32) (s2 : Int32) : Option (S_M) :=
  ck (inb s1 3) <|
  bd (f_M_isLate fu (M.1, M.2.1, M.2.2.1, M.2.2.2.1, M.2.2.2.2.1, M.2.2.2.2.2.1, (upd M.2.2.2.2.2.2.1 (ix s1) s2), M.2.2.2.2.2.2.2) v5) fun r237 =>
  if r237 = 0 then
    ck (inb v2 3) <|
    some ((M.1, M.2.1, M.2.2.1, M.2.2.2.1, M.2.2.2.2.1, (upd M.2.2.2.2.2.1 (ix v2) (v4 + 1)), (upd M.2.2.2.2.2.2.1 (ix s1) s2), M.2.2.2.2.2.2.2))
  else
    ck (inb v2 3) <|
    some ((M.1, M.2.1, M.2.2.1, M.2.2.2.1, M.2.2.2.2.1, (upd M.2.2.2.2.2.1 (ix v2) v4), (upd M.2.2.2.2.2.2.1 (ix s1) s2), M.2.2.2.2.2.2.2))
def f_M_step (fu : Nat) (M : S_M) (P1 : S_P) (a2 : Int32) (a3 : Int32) : Option (S_M) :=
  ck (inb a2 3) <|
  ck (inb (M.2.2.2.2.2.1 (ix a2)) 14) <|
  ck (inb (M.2.2.2.2.2.1 (ix a2)) 14) <|
  ck (inb a2 3) <|
  if M.2.2.2.2.2.2.1 (ix a2) = 0 then
    ck (inb (M.2.2.2.2.2.1 (ix a2)) 14) <|
    ck (inb (M.2.2.2.2.2.1 (ix a2)) 14) <|
    bd (f_M_numberOf fu (M.1, M.2.1, (upd M.2.2.1 (ix (M.2.2.2.2.2.1 (ix a2))) a3), M.2.2.2) (P1.2.2.2 (ix (M.2.2.2.2.2.1 (ix a2))))) fun r86 =>
    ck (inb (M.2.2.2.2.2.1 (ix a2)) 14) <|
    bd (f_M_isSplit fu (M.1, (upd M.2.1 (ix (M.2.2.2.2.2.1 (ix a2))) r86), (upd M.2.2.1 (ix (M.2.2.2.2.2.1 (ix a2))) a3), M.2.2.2) (P1.2.1 (ix (M.2.2.2.2.2.1 (ix a2))))) fun r98 =>
    if r98 = 0 then
      ck (inb a2 3) <|
      some ((M.1, (upd M.2.1 (ix (M.2.2.2.2.2.1 (ix a2))) r86), (upd M.2.2.1 (ix (M.2.2.2.2.2.1 (ix a2))) a3), M.2.2.2.1, M.2.2.2.2.1, M.2.2.2.2.2.1, (upd M.2.2.2.2.2.2.1 (ix a2) 2), M.2.2.2.2.2.2.2))
    else
      ck (inb a2 3) <|
      some ((M.1, (upd M.2.1 (ix (M.2.2.2.2.2.1 (ix a2))) r86), (upd M.2.2.1 (ix (M.2.2.2.2.2.1 (ix a2))) a3), M.2.2.2.1, M.2.2.2.2.1, M.2.2.2.2.2.1, (upd M.2.2.2.2.2.2.1 (ix a2) 1), M.2.2.2.2.2.2.2))
  else
  if M.2.2.2.2.2.2.1 (ix a2) = 1 then
    if (P1.2.1 (ix (M.2.2.2.2.2.1 (ix a2)))) = 6 then
      bd (f_O_source fu (P1.2.2.1 (ix (M.2.2.2.2.2.1 (ix a2))))) fun r131 =>
      bd (f_O_held fu M.2.2.2.2.1 r131) fun r139 =>
      ck (inb a2 3) <|
      ck (inb a2 3) <|
      some ((M.1, M.2.1, M.2.2.1, M.2.2.2.1, M.2.2.2.2.1, M.2.2.2.2.2.1, (upd M.2.2.2.2.2.2.1 (ix a2) 2), (upd M.2.2.2.2.2.2.2.1 (ix a2) r139), M.2.2.2.2.2.2.2.2))
    else
      bd (f_O_held fu M.2.2.2.2.1 (P1.2.2.1 (ix (M.2.2.2.2.2.1 (ix a2))))) fun r139 =>
      ck (inb a2 3) <|
      ck (inb a2 3) <|
      some ((M.1, M.2.1, M.2.2.1, M.2.2.2.1, M.2.2.2.2.1, M.2.2.2.2.2.1, (upd M.2.2.2.2.2.2.1 (ix a2) 2), (upd M.2.2.2.2.2.2.2.1 (ix a2) r139), M.2.2.2.2.2.2.2.2))
  else
  if M.2.2.2.2.2.2.1 (ix a2) = 2 then
    bd (f_M_isSplit fu M (P1.2.1 (ix (M.2.2.2.2.2.1 (ix a2))))) fun r156 =>
    if r156 = 0 then
      bd (f_M_act fu M (M.2.2.2.2.2.1 (ix a2)) (P1.2.1 (ix (M.2.2.2.2.2.1 (ix a2)))) (P1.2.2.1 (ix (M.2.2.2.2.2.1 (ix a2))))) fun M_188 =>
      ck (inb a2 3) <|
      some ((M_188.1, M_188.2.1, M_188.2.2.1, M_188.2.2.2.1, M_188.2.2.2.2.1, M_188.2.2.2.2.2.1, (upd M_188.2.2.2.2.2.2.1 (ix a2) 3), M_188.2.2.2.2.2.2.2))
    else
      ck (inb a2 3) <|
      bd (f_M_actByNote fu M (M.2.2.2.2.2.1 (ix a2)) (P1.2.1 (ix (M.2.2.2.2.2.1 (ix a2)))) (P1.2.2.1 (ix (M.2.2.2.2.2.1 (ix a2)))) (M.2.2.2.2.2.2.2.1 (ix a2))) fun M_175 =>
      ck (inb a2 3) <|
      some ((M_175.1, M_175.2.1, M_175.2.2.1, M_175.2.2.2.1, M_175.2.2.2.2.1, M_175.2.2.2.2.2.1, (upd M_175.2.2.2.2.2.2.1 (ix a2) 3), M_175.2.2.2.2.2.2.2))
  else
  if M.2.2.2.2.2.2.1 (ix a2) = 3 then
    ck (inb (M.2.2.2.2.2.1 (ix a2)) 14) <|
    bd (f_M_isLate fu (M.1, M.2.1, M.2.2.1, (upd M.2.2.2.1 (ix (M.2.2.2.2.2.1 (ix a2))) a3), M.2.2.2.2) (P1.2.1 (ix (M.2.2.2.2.2.1 (ix a2))))) fun r217 =>
    if r217 = 0 then
      f_M_step_L228 fu P1 (M.1, M.2.1, M.2.2.1, (upd M.2.2.2.1 (ix (M.2.2.2.2.2.1 (ix a2))) a3), M.2.2.2.2) a2 (M.2.2.2.2.2.1 (ix a2)) (P1.2.1 (ix (M.2.2.2.2.2.1 (ix a2)))) a2 0
    else
      f_M_step_L228 fu P1 (M.1, M.2.1, M.2.2.1, (upd M.2.2.2.1 (ix (M.2.2.2.2.2.1 (ix a2))) a3), M.2.2.2.2) a2 (M.2.2.2.2.2.1 (ix a2)) (P1.2.1 (ix (M.2.2.2.2.2.1 (ix a2)))) a2 4
  else
  ck (inb (M.2.2.2.2.2.1 (ix a2)) 14) <|
  bd (f_O_after fu M.2.2.2.2.1 (P1.2.1 (ix (M.2.2.2.2.2.1 (ix a2)))) (P1.2.2.1 (ix (M.2.2.2.2.2.1 (ix a2)))) (M.2.1 (ix (M.2.2.2.2.2.1 (ix a2))))) fun r272 =>
  ck (inb a2 3) <|
  ck (inb a2 3) <|
  some ((M.1, M.2.1, M.2.2.1, M.2.2.2.1, r272, (upd M.2.2.2.2.2.1 (ix a2) ((M.2.2.2.2.2.1 (ix a2)) + 1)), (upd M.2.2.2.2.2.2.1 (ix a2) 0), M.2.2.2.2.2.2.2))
def f_M_perform_L178 (fu : Nat) (P1 : S_P) (k104 : S_M → Int32 → Int32 → Int32 → Int32 → Option (S_M)) (M : S_M) (v3 : Int32) (v5 : Int32) (v6 : Int32) (v7 : Int32) (v8 : Int32) (v9 : Int32) (s0 : Int32) : Option (S_M) :=
  if v8 = 0 then
    if s0 = 0 then
      bd (f_M_step fu M P1 1 v7) fun M_204 =>
      k104 M_204 v3 v5 v6 (v7 + 1)
    else
      if v9 = 0 then
        bd (f_M_step fu M P1 2 v7) fun M_204 =>
        k104 M_204 v3 v5 v6 (v7 + 1)
      else
        bd (f_M_step fu M P1 1 v7) fun M_204 =>
        k104 M_204 v3 v5 v6 (v7 + 1)
  else
    bd (f_M_step fu M P1 2 v7) fun M_204 =>
    k104 M_204 v3 v5 v6 (v7 + 1)
def f_M_perform_L160 (fu : Nat) (P1 : S_P) (k104 : S_M → Int32 → Int32 → Int32 → Int32 → Option (S_M)) (M : S_M) (v3 : Int32) (v5 : Int32) (v6 : Int32) (v7 : Int32) (v8 : Int32) (v9 : Int32) : Option (S_M) :=
  ck (nz 31) <|
  if ((v3 >>> ((v7 - v7 / 31 * 31) &&& 31)) &&& 1) = 1 then
    f_M_perform_L178 fu P1 k104 M v3 v5 v6 v7 v8 v9 1
  else
    f_M_perform_L178 fu P1 k104 M v3 v5 v6 v7 v8 v9 0
def f_M_perform_L127 (fu : Nat) (P1 : S_P) (k104 : S_M → Int32 → Int32 → Int32 → Int32 → Option (S_M)) (M : S_M) (v3 : Int32) (v5 : Int32) (v6 : Int32) (v7 : Int32) (s0 : Int32) : Option (S_M) :=
  ck (inb 2 3) <|
  if (M.2.2.2.2.2.1 (ix 2)) < v6 then
    if s0 = 0 then
      f_M_perform_L160 fu P1 k104 M v3 v5 v6 v7 s0 0
    else
      f_M_perform_L160 fu P1 k104 M v3 v5 v6 v7 s0 0
  else
    if s0 = 0 then
      f_M_perform_L160 fu P1 k104 M v3 v5 v6 v7 s0 1
    else
      some M
def f_M_perform_L104 (fu : Nat) (P1 : S_P) : Nat → S_M → Int32 → Int32 → Int32 → Int32 → Option (S_M)
  | 0, _, _, _, _, _ => none
  | n + 1, M, v3, v5, v6, v7 =>
    if 70 ≤ v7 then
      some M
    else
      ck (inb 1 3) <|
      if (M.2.2.2.2.2.1 (ix 1)) < v5 then
        f_M_perform_L127 fu P1 (f_M_perform_L104 fu P1 n) M v3 v5 v6 v7 0
      else
        f_M_perform_L127 fu P1 (f_M_perform_L104 fu P1 n) M v3 v5 v6 v7 1
def f_M_perform_L87 (fu : Nat) (P1 : S_P) (M : S_M) (v3 : Int32) : Option (S_M) :=
  bd (f_P_end fu P1 1) fun r89 =>
  bd (f_P_end fu P1 2) fun r96 =>
  f_M_perform_L104 fu P1 fu M v3 r89 r96 0
def f_M_perform_L56 (fu : Nat) (P1 : S_P) : Nat → S_M → Int32 → Int32 → Int32 → Option (S_M)
  | 0, _, _, _, _ => none
  | n + 1, M, v3, v4, v5 =>
    if 70 ≤ v5 then
      f_M_perform_L87 fu P1 M v3
    else
      ck (inb 0 3) <|
      if v4 ≤ (M.2.2.2.2.2.1 (ix 0)) then
        f_M_perform_L87 fu P1 M v3
      else
        bd (f_M_step fu M P1 0 (-1)) fun M_78 =>
        f_M_perform_L56 fu P1 n M_78 v3 v4 (v5 + 1)
def f_M_perform_L46 (fu : Nat) (P1 : S_P) (M : S_M) (v3 : Int32) : Option (S_M) :=
  bd (f_P_end fu P1 0) fun r48 =>
  f_M_perform_L56 fu P1 fu M v3 r48 0
def f_M_perform_L13 (fu : Nat) (P1 : S_P) : Nat → S_M → Int32 → Int32 → Option (S_M)
  | 0, _, _, _ => none
  | n + 1, M, v3, v4 =>
    if 3 ≤ v4 then
      f_M_perform_L46 fu P1 M v3
    else
      bd (f_P_start fu P1 v4) fun r28 =>
      ck (inb v4 3) <|
      ck (inb v4 3) <|
      f_M_perform_L13 fu P1 n (M.1, M.2.1, M.2.2.1, M.2.2.2.1, M.2.2.2.2.1, (upd M.2.2.2.2.2.1 (ix v4) r28), (upd M.2.2.2.2.2.2.1 (ix v4) 0), M.2.2.2.2.2.2.2) v3 (v4 + 1)
def f_M_perform (fu : Nat) (M : S_M) (P1 : S_P) (a2 : Int32) (a3 : Int32) : Option (S_M) :=
  f_M_perform_L13 fu P1 fu (M.1, M.2.1, M.2.2.1, M.2.2.2.1, 0, M.2.2.2.2.2.1, M.2.2.2.2.2.2.1, M.2.2.2.2.2.2.2.1, a2) a3 0
def f_J_answersSo (fu : Nat) (P : S_P) (M1 : S_M) (a2 : Int32) (a3 : Int32) : Option (Int32) :=
  ck (inb a3 14) <|
  ck (inb a3 14) <|
  ck (inb a3 14) <|
  bd (f_O_answer fu a2 (P.2.1 (ix a3)) (P.2.2.1 (ix a3)) (M1.2.1 (ix a3))) fun r19 =>
  ck (inb a3 14) <|
  if r19 = (M1.1 (ix a3)) then
    ck (isB 1) <|
    some 1
  else
    ck (isB 0) <|
    some 0
def f_J_after (fu : Nat) (P : S_P) (M1 : S_M) (a2 : Int32) (a3 : Int32) : Option (Int32) :=
  ck (inb a3 14) <|
  ck (inb a3 14) <|
  ck (inb a3 14) <|
  bd (f_O_after fu a2 (P.2.1 (ix a3)) (P.2.2.1 (ix a3)) (M1.2.1 (ix a3))) fun r19 =>
  some r19
def f_J_search_L182 (fu : Nat) (rc : S_J → S_P → S_M → Int32 → Int32 → Int32 → Int32 → Option (Int32 × S_J)) (P1 : S_P) (M2 : S_M) (J : S_J) (v3 : Int32) (v4 : Int32) (v5 : Int32) (v6 : Int32) (s0 : Int32) : Option (Int32 × S_J) :=
  if s0 = 0 then
    ck (isB 0) <|
    some (0, J)
  else
    bd (f_J_answersSo fu P1 M2 v3 v5) fun r194 =>
    if r194 = 0 then
      ck (isB 0) <|
      some (0, J)
    else
      ck (inb v6 8) <|
      bd (f_J_after fu P1 M2 v3 v5) fun r214 =>
      bd (rc (upd J (ix v6) v5) P1 M2 r214 v4 (v5 + 1) (v6 + 1)) fun (r234, J_234) =>
      ck (isB r234) <|
      some (r234, J_234)
def f_J_search_L150 (fu : Nat) (rc : S_J → S_P → S_M → Int32 → Int32 → Int32 → Int32 → Option (Int32 × S_J)) (P1 : S_P) (M2 : S_M) (J : S_J) (v3 : Int32) (v4 : Int32) (v5 : Int32) (v6 : Int32) (v7 : Int32) (v8 : Int32) : Option (Int32 × S_J) :=
  if v8 = 0 then
    f_J_search_L182 fu rc P1 M2 J v3 v4 v5 v6 0
  else
    if v7 = 0 then
      f_J_search_L182 fu rc P1 M2 J v3 v4 v5 v6 1
    else
      ck (inb v4 14) <|
      ck (inb v5 14) <|
      if (M2.2.2.2.1 (ix v4)) < (M2.2.2.1 (ix v5)) then
        f_J_search_L182 fu rc P1 M2 J v3 v4 v5 v6 0
      else
        f_J_search_L182 fu rc P1 M2 J v3 v4 v5 v6 1
def f_J_search_L90 (fu : Nat) (rc : S_J → S_P → S_M → Int32 → Int32 → Int32 → Int32 → Option (Int32 × S_J)) (P1 : S_P) (M2 : S_M) (J : S_J) (v3 : Int32) (v4 : Int32) (v5 : Int32) (v6 : Int32) (v7 : Int32) (v8 : Int32) (s0 : Int32) : Option (Int32 × S_J) :=
  if s0 = 0 then
    f_J_search_L150 fu rc P1 M2 J v3 v4 v5 v6 v7 v8
  else
    bd (f_J_answersSo fu P1 M2 v3 v4) fun r102 =>
    if r102 = 0 then
      f_J_search_L150 fu rc P1 M2 J v3 v4 v5 v6 v7 v8
    else
      ck (inb v6 8) <|
      bd (f_J_after fu P1 M2 v3 v4) fun r122 =>
      bd (rc (upd J (ix v6) v4) P1 M2 r122 (v4 + 1) v5 (v6 + 1)) fun (r142, J_142) =>
      if r142 = 0 then
        f_J_search_L150 fu rc P1 M2 J_142 v3 v4 v5 v6 v7 v8
      else
        ck (isB 1) <|
        some (1, J_142)
def f_J_search_L46 (fu : Nat) (rc : S_J → S_P → S_M → Int32 → Int32 → Int32 → Int32 → Option (Int32 × S_J)) (P1 : S_P) (M2 : S_M) (J : S_J) (v3 : Int32) (v4 : Int32) (v5 : Int32) (v6 : Int32) (v7 : Int32) (v8 : Int32) : Option (Int32 × S_J) :=
  if v6 < 8 then
    if v7 = 0 then
      f_J_search_L90 fu rc P1 M2 J v3 v4 v5 v6 v7 v8 0
    else
      if v8 = 0 then
        f_J_search_L90 fu rc P1 M2 J v3 v4 v5 v6 v7 v8 1
      else
        ck (inb v5 14) <|
        ck (inb v4 14) <|
        if (M2.2.2.2.1 (ix v5)) < (M2.2.2.1 (ix v4)) then
          f_J_search_L90 fu rc P1 M2 J v3 v4 v5 v6 v7 v8 0
        else
          f_J_search_L90 fu rc P1 M2 J v3 v4 v5 v6 v7 v8 1
  else
    ck (isB 0) <|
    some (0, J)
def f_J_search_L15 (fu : Nat) (rc : S_J → S_P → S_M → Int32 → Int32 → Int32 → Int32 → Option (Int32 × S_J)) (P1 : S_P) (M2 : S_M) (J : S_J) (v3 : Int32) (v4 : Int32) (v5 : Int32) (v6 : Int32) (s0 : Int32) : Option (Int32 × S_J) :=
  bd (f_P_end fu P1 2) fun r21 =>
  if r21 ≤ v5 then
    if s0 = 0 then
      ck (isB 1) <|
      some (1, J)
    else
      f_J_search_L46 fu rc P1 M2 J v3 v4 v5 v6 s0 0
  else
    if s0 = 0 then
      f_J_search_L46 fu rc P1 M2 J v3 v4 v5 v6 s0 1
    else
      f_J_search_L46 fu rc P1 M2 J v3 v4 v5 v6 s0 1
def f_J_search (fu : Nat) : Nat → S_J → S_P → S_M → Int32 → Int32 → Int32 → Int32 → Option (Int32 × S_J)
  | 0, _, _, _, _, _, _, _ => none
  | d + 1, J, P1, M2, a3, a4, a5, a6 =>
  bd (f_P_end fu P1 1) fun r4 =>
  if r4 ≤ a4 then
    f_J_search_L15 fu (f_J_search fu d) P1 M2 J a3 a4 a5 a6 0
  else
    f_J_search_L15 fu (f_J_search fu d) P1 M2 J a3 a4 a5 a6 1
def f_J_explains_L47 (fu : Nat) (P1 : S_P) (M2 : S_M) (J : S_J) (v3 : Int32) : Option (Int32 × S_J) :=
  bd (f_P_start fu P1 1) fun r53 =>
  bd (f_P_start fu P1 2) fun r58 =>
  bd (f_J_search fu 10 J P1 M2 v3 r53 r58 0) fun (r62, J_62) =>
  ck (isB r62) <|
  some (r62, J_62)
def f_J_explains_L12 (fu : Nat) (P1 : S_P) (M2 : S_M) : Nat → S_J → Int32 → Int32 → Int32 → Option (Int32 × S_J)
  | 0, _, _, _, _ => none
  | n + 1, J, v3, v4, v5 =>
    if v4 ≤ v5 then
      f_J_explains_L47 fu P1 M2 J v3
    else
      bd (f_J_answersSo fu P1 M2 v3 v5) fun r24 =>
      if r24 = 0 then
        ck (isB 0) <|
        some (0, J)
      else
        bd (f_J_after fu P1 M2 v3 v5) fun r37 =>
        f_J_explains_L12 fu P1 M2 n J r37 v4 (v5 + 1)
def f_J_explains (fu : Nat) (J : S_J) (P1 : S_P) (M2 : S_M) : Option (Int32 × S_J) :=
  bd (f_P_end fu P1 0) fun r4 =>
  f_J_explains_L12 fu P1 M2 fu J 0 r4 0
def f_T_test_L69 (fu : Nat) (P1 : S_P) : Nat → S_T → Int32 → Int32 → Option (Int32 × S_T)
  | 0, _, _, _ => none
  | n + 1, T, v3, v4 =>
    if v3 ≤ v4 then
      ck (isB T.2.2.2.2.2.2.2.1) <|
      some (T.2.2.2.2.2.2.2.1, T)
    else
      ck (inb v4 14) <|
      ck (inb (P1.2.1 (ix v4)) 7) <|
      ck (inb (P1.2.1 (ix v4)) 7) <|
      f_T_test_L69 fu P1 n (T.1, T.2.1, (upd T.2.2.1 (ix (P1.2.1 (ix v4))) ((T.2.2.1 (ix (P1.2.1 (ix v4)))) + 1)), T.2.2.2) v3 (v4 + 1)
def f_T_test (fu : Nat) (T : S_T) (P1 : S_P) (a2 : Int32) : Option (Int32 × S_T) :=
  bd (f_M_perform fu T.1 P1 T.2.2.2.1 a2) fun M_15 =>
  bd (f_J_explains fu T.2.1 P1 M_15) fun (r28, J_28) =>
  ck (isB r28) <|
  if r28 = 0 then
    bd (f_P_size fu P1) fun r62 =>
    f_T_test_L69 fu P1 fu (M_15, J_28, T.2.2.1, T.2.2.2.1, T.2.2.2.2.1 + 1, T.2.2.2.2.2.1 + 1, a2, r28, T.2.2.2.2.2.2.2.2) r62 0
  else
    bd (f_P_size fu P1) fun r62 =>
    f_T_test_L69 fu P1 fu (M_15, J_28, T.2.2.1, T.2.2.2.1, T.2.2.2.2.1 + 1, T.2.2.2.2.2.1, a2, r28, T.2.2.2.2.2.2.2.2) r62 0
def f_D_restart (fu : Nat) (D : S_D) (a1 : Int64) : Option (S_D) :=
  some a1
def f_T_firstFailure_L11 (fu : Nat) (P1 : S_P) : Nat → S_T → Int32 → Int32 → Option (Int32 × S_T)
  | 0, _, _, _ => none
  | n + 1, T, v4, v5 =>
    if v4 ≤ v5 then
      some ((-1), T)
    else
      bd (f_D_below fu T.2.2.2.2.2.2.2.2 2147483647) fun (r26, D_26) =>
      bd (f_T_test fu (T.1, T.2.1, T.2.2.1, T.2.2.2.1, T.2.2.2.2.1, T.2.2.2.2.2.1, T.2.2.2.2.2.2.1, T.2.2.2.2.2.2.2.1, D_26) P1 r26) fun (r29, T_29) =>
      if r29 = 0 then
        some (v5, T_29)
      else
        f_T_firstFailure_L11 fu P1 n T_29 v4 (v5 + 1)
def f_T_firstFailure (fu : Nat) (T : S_T) (P1 : S_P) (a2 : Int64) (a4 : Int32) : Option (Int32 × S_T) :=
  bd (f_D_restart fu T.2.2.2.2.2.2.2.2 a2) fun D_5 =>
  f_T_firstFailure_L11 fu P1 fu (T.1, T.2.1, T.2.2.1, T.2.2.2.1, T.2.2.2.2.1, T.2.2.2.2.2.1, T.2.2.2.2.2.2.1, T.2.2.2.2.2.2.2.1, D_5) a4 0
def f_H_add (fu : Nat) (H : S_H) (a1 : Int32) (a2 : Int32) (a3 : Int32) (a4 : Int32) : Option ((Int32 ⊕ UInt32) × S_H) :=
  bd (f_H_isBelow fu a1 3) fun r2 =>
  if r2 = 0 then
    some (.inr 1, H)
  else
    bd (f_H_isBelow fu a2 7) fun r11 =>
    if r11 = 0 then
      some (.inr 1, H)
    else
      bd (f_H_isBelow fu a3 3) fun r19 =>
      if r19 = 0 then
        some (.inr 1, H)
      else
        bd (f_P_mayTake fu H.1 a1 a4) fun r42 =>
        if r42 = 0 then
          some (.inr 1, H)
        else
          bd (f_P_hasRoom fu H.1 a1) fun r63 =>
          if r63 = 0 then
            some (.inr 2, H)
          else
            bd (f_P_end fu H.1 a1) fun r84 =>
            bd (f_H_appendIfValid fu H a1 a2 a3 a4) fun (r95, H_95) =>
            if r95 = 0 then
              some (.inr 3, H_95)
            else
              ck (isB 0) <|
              some (.inl r84, (H_95.1, H_95.2.1, H_95.2.2.1, H_95.2.2.2.1, H_95.2.2.2.2.1, 0))
def f_H_make (fu : Nat) (H : S_H) (a1 : Int64) (a3 : Int32) (a4 : Int32) (a5 : Int32) : Option ((Int32 ⊕ UInt32) × S_H) :=
  bd (f_H_isBelow fu a3 7) fun r3 =>
  if r3 = 0 then
    some (.inr 1, H)
  else
    bd (f_H_isBelow fu a4 5) fun r12 =>
    if r12 = 0 then
      some (.inr 1, H)
    else
      bd (f_H_isBelow fu a5 5) fun r21 =>
      if r21 = 0 then
        some (.inr 1, H)
      else
        bd (f_D_restart fu H.2.2.2.1 a1) fun D_42 =>
        bd (f_P_empty fu H.1) fun P_49 =>
        bd (f_H_drawBranch fu (P_49, H.2.1, H.2.2.1, D_42, H.2.2.2.2) 0 a3) fun H_55 =>
        bd (f_H_drawBranch fu H_55 1 a4) fun H_62 =>
        bd (f_H_drawBranch fu H_62 2 a5) fun H_69 =>
        ck (isB 0) <|
        bd (f_P_size fu H_69.1) fun r81 =>
        some (.inl r81, (H_69.1, H_69.2.1, H_69.2.2.1, H_69.2.2.2.1, H_69.2.2.2.2.1, 0))
def f_H_flaws (fu : Nat) (H : S_H) (a1 : Int32) : Option ((Int32 ⊕ UInt32) × S_H) :=
  bd (f_H_isBelow fu a1 16) fun r3 =>
  if r3 = 0 then
    some (.inr 1, H)
  else
    some (.inl H.2.2.1.2.2.2.1, (H.1, H.2.1, (H.2.2.1.1, H.2.2.1.2.1, H.2.2.1.2.2.1, a1, H.2.2.1.2.2.2.2), H.2.2.2))
def f_H_run (fu : Nat) (H : S_H) (a1 : Int32) : Option ((Int32 ⊕ UInt32) × S_H) :=
  if 0 ≤ a1 then
    ck (isB 1) <|
    bd (f_T_test fu H.2.2.1 H.1 a1) fun (r28, T_28) =>
    ck (isB r28) <|
    some (.inl r28, (H.1, H.2.1, T_28, H.2.2.2.1, H.2.2.2.2.1, 1))
  else
    some (.inr 1, H)
def f_H_fails (fu : Nat) (H : S_H) (a1 : Int64) (a3 : Int32) : Option ((Int32 ⊕ UInt32) × S_H) :=
  if a3 < 1 then
    some (.inr 1, H)
  else
    if a3 ≤ 50 then
      ck (isB 1) <|
      bd (f_T_firstFailure fu H.2.2.1 H.1 a1 a3) fun (r36, T_36) =>
      some (.inl r36, (H.1, H.2.1, T_36, H.2.2.2.1, H.2.2.2.2.1, 1))
    else
      some (.inr 1, H)
def f_H_shrink_L154 (fu : Nat) (H : S_H) (v4 : Int32) (v5 : Int32) : Option ((Int32 ⊕ UInt32) × S_H) :=
  bd (f_T_test fu H.2.2.1 H.1 v4) fun (r175, T_175) =>
  some (.inl v5, (H.1, H.2.1, T_175, H.2.2.2.1, H.2.2.2.2.1 + v5, H.2.2.2.2.2))
def f_H_shrink_L68 (fu : Nat) : Nat → S_H → Int64 → Int32 → Int32 → Int32 → Int32 → Option ((Int32 ⊕ UInt32) × S_H)
  | 0, _, _, _, _, _, _ => none
  | n + 1, H, v1, v3, v4, v5, v6 =>
    if 44 ≤ v6 then
      f_H_shrink_L154 fu H v4 v5
    else
      if 1000 ≤ v5 then
        f_H_shrink_L154 fu H v4 v5
      else
        bd (f_H_prepareCandidate fu H v6) fun (r86, H_86) =>
        if r86 = 0 then
          f_H_shrink_L68 fu n H_86 v1 v3 v4 v5 (v6 + 1)
        else
          bd (f_P_isValid fu H_86.2.1) fun r96 =>
          if r96 = 0 then
            f_H_shrink_L68 fu n H_86 v1 v3 v4 v5 (v6 + 1)
          else
            bd (f_T_firstFailure fu H_86.2.2.1 H_86.2.1 v1 v3) fun (r112, T_112) =>
            if r112 = (-1) then
              f_H_shrink_L68 fu n (H_86.1, H_86.2.1, T_112, H_86.2.2.2) v1 v3 v4 v5 (v6 + 1)
            else
              bd (f_P_copyFrom fu H_86.1 H_86.2.1) fun P_127 =>
              f_H_shrink_L68 fu n (P_127, H_86.2.1, T_112, H_86.2.2.2) v1 v3 T_112.2.2.2.2.2.2.1 (v5 + 1) 0
def f_H_shrink (fu : Nat) (H : S_H) (a1 : Int64) (a3 : Int32) : Option ((Int32 ⊕ UInt32) × S_H) :=
  if a3 < 1 then
    some (.inr 1, H)
  else
    if a3 ≤ 50 then
      ck (isB 1) <|
      bd (f_T_firstFailure fu H.2.2.1 H.1 a1 a3) fun (r36, T_36) =>
      if r36 = (-1) then
        some (.inr 2, (H.1, H.2.1, T_36, H.2.2.2.1, H.2.2.2.2.1, 1))
      else
        f_H_shrink_L68 fu fu (H.1, H.2.1, T_36, H.2.2.2.1, H.2.2.2.2.1, 1) a1 a3 T_36.2.2.2.2.2.2.1 0 0
    else
      some (.inr 1, H)
def f_H_command (fu : Nat) (H : S_H) (a1 : Int32) (a2 : Int32) : Option ((Int32 ⊕ UInt32)) :=
  bd (f_P_size fu H.1) fun r5 =>
  bd (f_H_isBelow fu a1 r5) fun r8 =>
  if r8 = 0 then
    some (.inr 4)
  else
    bd (f_H_isBelow fu a2 4) fun r16 =>
    if r16 = 0 then
      some (.inr 4)
    else
      if a2 = 0 then
        bd (f_P_branchOf fu H.1 a1) fun r65 =>
        some (.inl r65)
      else
      if a2 = 1 then
        ck (inb a1 14) <|
        some (.inl (H.1.2.1 (ix a1)))
      else
      if a2 = 2 then
        ck (inb a1 14) <|
        some (.inl (H.1.2.2.1 (ix a1)))
      else
      ck (inb a1 14) <|
      some (.inl (H.1.2.2.2 (ix a1)))
def f_H_event (fu : Nat) (H : S_H) (a1 : Int32) (a2 : Int32) : Option ((Int32 ⊕ UInt32)) :=
  bd (f_P_size fu H.1) fun r5 =>
  bd (f_H_isBelow fu a1 r5) fun r8 =>
  if r8 = 0 then
    some (.inr 4)
  else
    bd (f_H_isBelow fu a2 4) fun r16 =>
    if r16 = 0 then
      some (.inr 4)
    else
      if H.2.2.2.2.2 = 0 then
        some (.inr 2)
      else
        if a2 = 0 then
          ck (inb a1 14) <|
          some (.inl (H.2.2.1.1.1 (ix a1)))
        else
        if a2 = 1 then
          ck (inb a1 14) <|
          some (.inl (H.2.2.1.1.2.1 (ix a1)))
        else
        if a2 = 2 then
          ck (inb a1 14) <|
          some (.inl (H.2.2.1.1.2.2.1 (ix a1)))
        else
        ck (inb a1 14) <|
        some (.inl (H.2.2.1.1.2.2.2.1 (ix a1)))
def f_H_order (fu : Nat) (H : S_H) (a1 : Int32) : Option ((Int32 ⊕ UInt32)) :=
  if H.2.2.2.2.2 = 0 then
    some (.inr 2)
  else
    if H.2.2.1.2.2.2.2.2.2.2.1 = 0 then
      some (.inr 5)
    else
      bd (f_P_size fu H.1) fun r32 =>
      ck (inb 0 3) <|
      bd (f_H_isBelow fu a1 (r32 - (H.1.1 (ix 0)))) fun r45 =>
      if r45 = 0 then
        some (.inr 5)
      else
        ck (inb a1 8) <|
        some (.inl (H.2.2.1.2.1 (ix a1)))
def f_H_cell (fu : Nat) (H : S_H) (a1 : Int32) : Option ((Int32 ⊕ UInt32)) :=
  bd (f_H_isBelow fu a1 3) fun r2 =>
  if r2 = 0 then
    some (.inr 4)
  else
    if H.2.2.2.2.2 = 0 then
      some (.inr 2)
    else
      bd (f_O_content fu H.2.2.1.1.2.2.2.2.1 a1) fun r46 =>
      some (.inl r46)
def f_H_count (fu : Nat) (H : S_H) (a1 : Int32) : Option ((Int32 ⊕ UInt32)) :=
  if a1 = 0 then
    bd (f_P_size fu H.1) fun r36 =>
    some (.inl r36)
  else
  if a1 = 1 then
    some (.inl H.2.2.1.2.2.2.2.1)
  else
  if a1 = 2 then
    some (.inl H.2.2.1.2.2.2.2.2.1)
  else
  if a1 = 3 then
    some (.inl H.2.2.2.2.1)
  else
  some (.inr 4)
def f_H_tally (fu : Nat) (H : S_H) (a1 : Int32) : Option ((Int32 ⊕ UInt32)) :=
  bd (f_H_isBelow fu a1 7) fun r3 =>
  if r3 = 0 then
    some (.inr 4)
  else
    ck (inb a1 7) <|
    some (.inl (H.2.2.1.2.2.1 (ix a1)))
def hpW (h : S_H) (r : S_R) (out : Nat → Int64) : ev_H := [.inr (0, [.ref 1, .ref 6, .ref 11, .ref 24, .int h.2.2.2.2.1, .int h.2.2.2.2.2]),
  .inr (1, [.ref 2, .ref 3, .ref 4, .ref 5]),
  .inl (.int, 3, .inl h.1.1),
  .inl (.int, 14, .inl h.1.2.1),
  .inl (.int, 14, .inl h.1.2.2.1),
  .inl (.int, 14, .inl h.1.2.2.2),
  .inr (1, [.ref 7, .ref 8, .ref 9, .ref 10]),
  .inl (.int, 3, .inl h.2.1.1),
  .inl (.int, 14, .inl h.2.1.2.1),
  .inl (.int, 14, .inl h.2.1.2.2.1),
  .inl (.int, 14, .inl h.2.1.2.2.2),
  .inr (2, [.ref 12, .ref 20, .ref 22, .int h.2.2.1.2.2.2.1, .int h.2.2.1.2.2.2.2.1, .int h.2.2.1.2.2.2.2.2.1, .int h.2.2.1.2.2.2.2.2.2.1, .int h.2.2.1.2.2.2.2.2.2.2.1, .ref 23]),
  .inr (3, [.ref 13, .ref 14, .ref 15, .ref 16, .int h.2.2.1.1.2.2.2.2.1, .ref 17, .ref 18, .ref 19, .int h.2.2.1.1.2.2.2.2.2.2.2.2]),
  .inl (.int, 14, .inl h.2.2.1.1.1),
  .inl (.int, 14, .inl h.2.2.1.1.2.1),
  .inl (.int, 14, .inl h.2.2.1.1.2.2.1),
  .inl (.int, 14, .inl h.2.2.1.1.2.2.2.1),
  .inl (.int, 3, .inl h.2.2.1.1.2.2.2.2.2.1),
  .inl (.int, 3, .inl h.2.2.1.1.2.2.2.2.2.2.1),
  .inl (.int, 3, .inl h.2.2.1.1.2.2.2.2.2.2.2.1),
  .inr (4, [.ref 21]),
  .inl (.int, 8, .inl h.2.2.1.2.1),
  .inl (.int, 7, .inl h.2.2.1.2.2.1),
  .inr (5, [.long h.2.2.1.2.2.2.2.2.2.2.2]),
  .inr (5, [.long h.2.2.2.1]),
  .inr (6, [.int r.1, .ref 26, .ref 27, .ref 28, .ref 29, .ref 30, .ref 31, .int r.2.2.2.2.2.2.2.1, .long r.2.2.2.2.2.2.2.2.1, .ref 32, .ref 33, .ref 34, .ref 35, .int r.2.2.2.2.2.2.2.2.2.2.2.2.2.1, .int r.2.2.2.2.2.2.2.2.2.2.2.2.2.2.1, .ref 36, .ref 37, .ref 38, .ref 39, .ref 40, .ref 41, .ref 42, .int r.2.2.2.2.2.2.2.2.2.2.2.2.2.2.2.2.2.2.2.2.2.2.1, .int r.2.2.2.2.2.2.2.2.2.2.2.2.2.2.2.2.2.2.2.2.2.2.2.1, .int r.2.2.2.2.2.2.2.2.2.2.2.2.2.2.2.2.2.2.2.2.2.2.2.2.1, .int r.2.2.2.2.2.2.2.2.2.2.2.2.2.2.2.2.2.2.2.2.2.2.2.2.2.1, .int r.2.2.2.2.2.2.2.2.2.2.2.2.2.2.2.2.2.2.2.2.2.2.2.2.2.2.1, .ref 43]),
  .inl (.int, 3, .inl r.2.1),
  .inl (.int, 14, .inl r.2.2.1),
  .inl (.int, 14, .inl r.2.2.2.1),
  .inl (.int, 14, .inl r.2.2.2.2.1),
  .inl (.int, 3, .inl r.2.2.2.2.2.1),
  .inl (.int, 42, .inl r.2.2.2.2.2.2.1),
  .inl (.int, 3, .inl r.2.2.2.2.2.2.2.2.2.1),
  .inl (.boolean, 3, .inl r.2.2.2.2.2.2.2.2.2.2.1),
  .inl (.int, 3, .inl r.2.2.2.2.2.2.2.2.2.2.2.1),
  .inl (.boolean, 3, .inl r.2.2.2.2.2.2.2.2.2.2.2.2.1),
  .inl (.int, 14, .inl r.2.2.2.2.2.2.2.2.2.2.2.2.2.2.2.1),
  .inl (.int, 14, .inl r.2.2.2.2.2.2.2.2.2.2.2.2.2.2.2.2.1),
  .inl (.int, 14, .inl r.2.2.2.2.2.2.2.2.2.2.2.2.2.2.2.2.2.1),
  .inl (.int, 14, .inl r.2.2.2.2.2.2.2.2.2.2.2.2.2.2.2.2.2.2.1),
  .inl (.int, 14, .inl r.2.2.2.2.2.2.2.2.2.2.2.2.2.2.2.2.2.2.2.1),
  .inl (.int, 3, .inl r.2.2.2.2.2.2.2.2.2.2.2.2.2.2.2.2.2.2.2.2.1),
  .inl (.int, 3, .inl r.2.2.2.2.2.2.2.2.2.2.2.2.2.2.2.2.2.2.2.2.2.1),
  .inl (.int, 7, .inl r.2.2.2.2.2.2.2.2.2.2.2.2.2.2.2.2.2.2.2.2.2.2.2.2.2.2.2),
  .inl (.long, 1, .inr out)]
