def FU : Nat := 1000
def fX2_becomeAs_34  (o : Nat) : Nat → Mem → Nat → Int32 → Option Mem
  | 0, _, _, _ => none
  | n + 1, σ, q1, x2 =>
    if (3 : Int32) ≤ x2 then
      some σ
    else
      gd (inb x2 3) (
      gd (inb x2 3) (
      stp (sA σ o 4 x2.toNatClampNeg (mA σ q1 4 x2.toNatClampNeg)) fun σ9 =>
      gd (inb x2 3) (
      gd (inb x2 3) (
      stp (sA σ9 o 5 x2.toNatClampNeg (mA σ9 q1 5 x2.toNatClampNeg)) fun σ10 =>
      fX2_becomeAs_34 o n σ10 q1 (x2 + 1)))))
def fX2_becomeAs (σ : Mem) (o : Nat) (q1 : Nat) : Option Mem :=
  stp (sI σ o 0 (mI σ q1 0)) fun σ11 =>
  stp (sI σ11 o 1 (mI σ11 q1 1)) fun σ12 =>
  stp (sI σ12 o 2 (mI σ12 q1 2)) fun σ13 =>
  stp (sI σ13 o 3 (mI σ13 q1 3)) fun σ14 =>
  fX2_becomeAs_34 o FU σ14 q1 (0 : Int32)
def fX0_remember_33  (o : Nat) (σ : Mem) (xs0 : Int32) : Option Mem :=
  stp (sI σ o 1 xs0) fun σ6 =>
  stp (sI σ6 o 0 (mnI ((mI σ6 o 0) + (1 : Int32)) (10 : Int32))) fun σ7 =>
  some σ7
def fX0_remember (σ : Mem) (o : Nat) (q1 : Nat) : Option Mem :=
  gd (inb (mI σ o 1) 10) (
  bd (fX2_becomeAs σ (mE σ o 2 (mI σ o 1).toNatClampNeg) q1) fun σ9 =>
  if mI σ9 o 1 = (9 : Int32) then
    fX0_remember_33 o σ9 (0 : Int32)
  else
    fX0_remember_33 o σ9 ((mI σ9 o 1) + (1 : Int32)))
def fX0_takeBack_19  (o : Nat) (σ : Mem) (q1 : Nat) (xs0 : Int32) : Option Mem :=
  stp (sI σ o 1 xs0) fun σ6 =>
  gd (inb (mI σ6 o 1) 10) (
  bd (fX2_becomeAs σ6 q1 (mE σ6 o 2 (mI σ6 o 1).toNatClampNeg)) fun σ8 =>
  stp (sI σ8 o 0 ((mI σ8 o 0) - (1 : Int32))) fun σ9 =>
  some σ9)
def fX0_takeBack (σ : Mem) (o : Nat) (q1 : Nat) : Option Mem :=
  if mI σ o 1 = 0 then
    fX0_takeBack_19 o σ q1 (9 : Int32)
  else
    fX0_takeBack_19 o σ q1 ((mI σ o 1) - (1 : Int32))
def fX1_forget (σ : Mem) (o : Nat) : Option Mem :=
  stp (sI σ o 0 (10 : Int32)) fun σ6 =>
  stp (sI σ6 o 1 (2 : Int32)) fun σ7 =>
  stp (sI σ7 o 2 (1 : Int32)) fun σ8 =>
  stp (sI σ8 o 3 (0 : Int32)) fun σ9 =>
  stp (sI σ9 o 4 (0 : Int32)) fun σ10 =>
  some σ10
def fX1_addTraveller_76  (o : Nat) (σ : Mem) (x3 : Int32) : Option Mem :=
  gd (inb x3 6) (
  stp (sA σ o 7 x3.toNatClampNeg (mI σ o 3)) fun σ9 =>
  stp (sI σ9 o 3 ((mI σ9 o 3) + (1 : Int32))) fun σ10 =>
  some σ10)
def fX1_addTraveller_35  (o : Nat) : Nat → Mem → Int32 → Int32 → Option Mem
  | 0, _, _, _ => none
  | n + 1, σ, x1, x3 =>
    if x3 ≤ 0 then
      fX1_addTraveller_76 o σ x3
    else
      gd (inb (x3 - (1 : Int32)) 6) (
      gd (inb (mA σ o 7 (x3 - (1 : Int32)).toNatClampNeg) 6) (
      if mA σ o 5 (mA σ o 7 (x3 - (1 : Int32)).toNatClampNeg).toNatClampNeg ≤ x1 then
        fX1_addTraveller_76 o σ x3
      else
        gd (inb (x3 - (1 : Int32)) 6) (
        gd (inb x3 6) (
        stp (sA σ o 7 x3.toNatClampNeg (mA σ o 7 (x3 - (1 : Int32)).toNatClampNeg)) fun σ13 =>
        fX1_addTraveller_35 o n σ13 x1 (x3 + (-1))))))
def fX1_addTraveller (σ : Mem) (o : Nat) (x1 : Int32) (x2 : Int32) : Option Mem :=
  if mI σ o 3 < (6 : Int32) then
    gd (inb (mI σ o 3) 6) (
    stp (sA σ o 5 (mI σ o 3).toNatClampNeg x1) fun σ15 =>
    gd (inb (mI σ15 o 3) 6) (
    stp (sA σ15 o 6 (mI σ15 o 3).toNatClampNeg x2) fun σ16 =>
    fX1_addTraveller_35 o FU σ16 x1 (mI σ16 o 3)))
  else
    some σ
def fX1_addClerk (σ : Mem) (o : Nat) (x1 : Int32) (x2 : Int32) (x3 : Int32) : Option Mem :=
  if mI σ o 4 < (4 : Int32) then
    gd (inb (mI σ o 4) 4) (
    stp (sA σ o 8 (mI σ o 4).toNatClampNeg x1) fun σ7 =>
    gd (inb (mI σ7 o 4) 4) (
    stp (sA σ7 o 9 (mI σ7 o 4).toNatClampNeg x2) fun σ8 =>
    gd (inb (mI σ8 o 4) 4) (
    stp (sA σ8 o 10 (mI σ8 o 4).toNatClampNeg x3) fun σ9 =>
    stp (sI σ9 o 4 ((mI σ9 o 4) + (1 : Int32))) fun σ10 =>
    some σ10)))
  else
    some σ
def fX1_hasTraveller (σ : Mem) (o : Nat) (x1 : Int32) : Option Int32 :=
  if x1 < 0 then
    some (0 : Int32)
  else
    if mI σ o 3 ≤ x1 then
      some (0 : Int32)
    else
      some (1 : Int32)
def fX1_hasClerk (σ : Mem) (o : Nat) (x1 : Int32) : Option Int32 :=
  if x1 < 0 then
    some (0 : Int32)
  else
    if mI σ o 4 ≤ x1 then
      some (0 : Int32)
    else
      some (1 : Int32)
def fX1_hasRow (σ : Mem) (o : Nat) (x1 : Int32) : Option Int32 :=
  if x1 < 0 then
    some (0 : Int32)
  else
    if mI σ o 1 ≤ x1 then
      some (0 : Int32)
    else
      some (1 : Int32)
def fX1_boatSailsOn (σ : Mem) (o : Nat) (x1 : Int32) : Option Int32 :=
  if mI σ o 2 ≤ 0 then
    some (0 : Int32)
  else
    gd (decide (¬ (mI σ o 2) = 0)) (
    if x1 - x1 / (mI σ o 2) * (mI σ o 2) = 0 then
      some (1 : Int32)
    else
      some (0 : Int32))
def fX1_boatFrom (σ : Mem) (o : Nat) (x1 : Int32) : Option Int32 :=
  if mI σ o 2 ≤ 0 then
    some x1
  else
    gd (decide (¬ (mI σ o 2) = 0)) (
    some ((((x1 + (mI σ o 2)) - (1 : Int32)) / (mI σ o 2)) * (mI σ o 2)))
def fX1_copied (σ : Mem) (o : Nat) (x1 : Int32) (x2 : Int32) : Option Int32 :=
  if (10 : Int32) ≤ x1 then
    some (10 : Int32)
  else
    gd (inb x2 4) (
    if ((mA σ o 8 x2.toNatClampNeg) >>> (x1 &&& 31)) &&& (1 : Int32) = 0 then
      gd (inb x2 4) (
      if x1 = mA σ o 9 x2.toNatClampNeg then
        gd (inb x2 4) (
        some (mA σ o 10 x2.toNatClampNeg))
      else
        some x1)
    else
      some (10 : Int32))
def fX1_copiedFrom_5  (σ : Mem) (o : Nat) : Nat → Int32 → Int32 → Int32 → Int32 → Option Int32
  | 0, _, _, _, _ => none
  | n + 1, x1, x2, x3, x4 =>
    if (10 : Int32) ≤ x4 then
      some x3
    else
      bd (fX1_copied σ o x4 x2) fun r5 =>
      if r5 = x1 then
        fX1_copiedFrom_5 σ o n x1 x2 (x3 ||| ((1 : Int32) <<< (x4 &&& 31))) (x4 + 1)
      else
        fX1_copiedFrom_5 σ o n x1 x2 x3 (x4 + 1)
def fX1_copiedFrom (σ : Mem) (o : Nat) (x1 : Int32) (x2 : Int32) : Option Int32 :=
  fX1_copiedFrom_5 σ o FU x1 x2 (0 : Int32) (0 : Int32)
def fX1_smoked_8  (σ : Mem) (o : Nat) : Nat → Int32 → Int32 → Int32 → Int32 → Option Int32
  | 0, _, _, _, _ => none
  | n + 1, x2, x3, x4, x5 =>
    if x5 < (11 : Int32) then
      some (x3 + x4)
    else
      bd (fX1_copied σ o (x5 - x5 / (11 : Int32) * (11 : Int32)) x2) fun r4 =>
      fX1_smoked_8 σ o n x2 (x3 + (x4 * r4)) (x4 * (11 : Int32)) (x5 / (11 : Int32))
def fX1_smoked (σ : Mem) (o : Nat) (x1 : Int32) (x2 : Int32) : Option Int32 :=
  fX1_smoked_8 σ o FU x2 (0 : Int32) (1 : Int32) x1
def fJ7_fill_53178_5   : Nat → Mem → Nat → Nat → Nat → Int32 → Int32 → Int32 → Option Mem
  | 0, _, _, _, _, _, _, _ => none
  | n + 1, σ, a0, b0, n0, x1, x2, x3 =>
    if x3 ≤ x2 then
      some σ
    else
      gd (inb x2 n0) (
      stp (sA σ a0 b0 x2.toNatClampNeg x1) fun σ4 =>
      fJ7_fill_53178_5 n σ4 a0 b0 n0 x1 (x2 + 1) x3)
def fJ7_fill_53178 (σ : Mem) (a0 b0 n0 : Nat) (x1 : Int32) : Option Mem :=
  fJ7_fill_53178_5 FU σ a0 b0 n0 x1 (0 : Int32) (Int32.ofNat n0)
def fX2_beginAnew (σ : Mem) (o : Nat) : Option Mem :=
  stp (sI σ o 0 (0 : Int32)) fun σ7 =>
  stp (sI σ7 o 1 (0 : Int32)) fun σ8 =>
  stp (sI σ8 o 2 (0 : Int32)) fun σ9 =>
  stp (sI σ9 o 3 (1 : Int32)) fun σ10 =>
  bd (fJ7_fill_53178 σ10 o 4 3 (0 : Int32)) fun σ11 =>
  bd (fJ7_fill_53178 σ11 o 5 3 (0 : Int32)) fun σ12 =>
  some σ12
def fX5_rowWith_2  (σ : Mem) : Nat → Nat → Nat → Nat → Int32 → Int32 → Option Int32
  | 0, _, _, _, _, _ => none
  | n + 1, a0, b0, n0, x1, x2 =>
    if Int32.ofNat n0 ≤ x2 then
      some (-9 : Int32)
    else
      gd (inb x2 n0) (
      if ((mA σ a0 b0 x2.toNatClampNeg) >>> (x1 &&& 31)) &&& (1 : Int32) = 0 then
        fX5_rowWith_2 σ n a0 b0 n0 x1 (x2 + 1)
      else
        some x2)
def fX5_rowWith (σ : Mem) (a0 b0 n0 : Nat) (x1 : Int32) : Option Int32 :=
  fX5_rowWith_2 σ FU a0 b0 n0 x1 (0 : Int32)
def fX2_rowOf (σ : Mem) (o : Nat) (x1 : Int32) : Option Int32 :=
  bd (fX5_rowWith σ o 4 3 x1) fun r2 =>
  some r2
def fX2_daysInRow (σ : Mem) (o : Nat) (x1 : Int32) : Option Int32 :=
  bd (fX2_rowOf σ o x1) fun r4 =>
  if r4 < 0 then
    some (0 : Int32)
  else
    if (3 : Int32) ≤ r4 then
      some (0 : Int32)
    else
      gd (inb r4 3) (
      some (mA σ o 5 r4.toNatClampNeg))
def fX2_isGone (σ : Mem) (o : Nat) (x1 : Int32) : Option Int32 :=
  if ((mI σ o 2) >>> (x1 &&& 31)) &&& (1 : Int32) = 0 then
    some (0 : Int32)
  else
    some (1 : Int32)
def fX2_mayLeave_5  (σ : Mem) (o : Nat) : Nat → Int32 → Int32 → Int32 → Int32 → Option Int32
  | 0, _, _, _, _ => none
  | n + 1, x1, x2, x3, x4 =>
    if (3 : Int32) ≤ x4 then
      some x3
    else
      gd (inb x4 3) (
      if (mA σ o 5 x4.toNatClampNeg) + x2 < x1 then
        fX2_mayLeave_5 σ o n x1 x2 x3 (x4 + 1)
      else
        gd (inb x4 3) (
        fX2_mayLeave_5 σ o n x1 x2 (x3 ||| (mA σ o 4 x4.toNatClampNeg)) (x4 + 1)))
def fX2_mayLeave (σ : Mem) (o : Nat) (x1 : Int32) (x2 : Int32) : Option Int32 :=
  fX2_mayLeave_5 σ o FU x1 x2 (0 : Int32) (0 : Int32)
def fJ6_bitCount_0f7a4 (x0 : Int32) : Option Int32 :=
  some ((((((((x0 - (((x0.toUInt32 >>> ((1 : Int32).toUInt32 &&& Int32.toUInt32 31)).toInt32) &&& (1431655765 : Int32))) &&& (858993459 : Int32)) + ((((x0 - (((x0.toUInt32 >>> ((1 : Int32).toUInt32 &&& Int32.toUInt32 31)).toInt32) &&& (1431655765 : Int32))).toUInt32 >>> ((2 : Int32).toUInt32 &&& Int32.toUInt32 31)).toInt32) &&& (858993459 : Int32))) + (((((x0 - (((x0.toUInt32 >>> ((1 : Int32).toUInt32 &&& Int32.toUInt32 31)).toInt32) &&& (1431655765 : Int32))) &&& (858993459 : Int32)) + ((((x0 - (((x0.toUInt32 >>> ((1 : Int32).toUInt32 &&& Int32.toUInt32 31)).toInt32) &&& (1431655765 : Int32))).toUInt32 >>> ((2 : Int32).toUInt32 &&& Int32.toUInt32 31)).toInt32) &&& (858993459 : Int32))).toUInt32 >>> ((4 : Int32).toUInt32 &&& Int32.toUInt32 31)).toInt32)) &&& (252645135 : Int32)) + (((((((x0 - (((x0.toUInt32 >>> ((1 : Int32).toUInt32 &&& Int32.toUInt32 31)).toInt32) &&& (1431655765 : Int32))) &&& (858993459 : Int32)) + ((((x0 - (((x0.toUInt32 >>> ((1 : Int32).toUInt32 &&& Int32.toUInt32 31)).toInt32) &&& (1431655765 : Int32))).toUInt32 >>> ((2 : Int32).toUInt32 &&& Int32.toUInt32 31)).toInt32) &&& (858993459 : Int32))) + (((((x0 - (((x0.toUInt32 >>> ((1 : Int32).toUInt32 &&& Int32.toUInt32 31)).toInt32) &&& (1431655765 : Int32))) &&& (858993459 : Int32)) + ((((x0 - (((x0.toUInt32 >>> ((1 : Int32).toUInt32 &&& Int32.toUInt32 31)).toInt32) &&& (1431655765 : Int32))).toUInt32 >>> ((2 : Int32).toUInt32 &&& Int32.toUInt32 31)).toInt32) &&& (858993459 : Int32))).toUInt32 >>> ((4 : Int32).toUInt32 &&& Int32.toUInt32 31)).toInt32)) &&& (252645135 : Int32)).toUInt32 >>> ((8 : Int32).toUInt32 &&& Int32.toUInt32 31)).toInt32)) + ((((((((x0 - (((x0.toUInt32 >>> ((1 : Int32).toUInt32 &&& Int32.toUInt32 31)).toInt32) &&& (1431655765 : Int32))) &&& (858993459 : Int32)) + ((((x0 - (((x0.toUInt32 >>> ((1 : Int32).toUInt32 &&& Int32.toUInt32 31)).toInt32) &&& (1431655765 : Int32))).toUInt32 >>> ((2 : Int32).toUInt32 &&& Int32.toUInt32 31)).toInt32) &&& (858993459 : Int32))) + (((((x0 - (((x0.toUInt32 >>> ((1 : Int32).toUInt32 &&& Int32.toUInt32 31)).toInt32) &&& (1431655765 : Int32))) &&& (858993459 : Int32)) + ((((x0 - (((x0.toUInt32 >>> ((1 : Int32).toUInt32 &&& Int32.toUInt32 31)).toInt32) &&& (1431655765 : Int32))).toUInt32 >>> ((2 : Int32).toUInt32 &&& Int32.toUInt32 31)).toInt32) &&& (858993459 : Int32))).toUInt32 >>> ((4 : Int32).toUInt32 &&& Int32.toUInt32 31)).toInt32)) &&& (252645135 : Int32)) + (((((((x0 - (((x0.toUInt32 >>> ((1 : Int32).toUInt32 &&& Int32.toUInt32 31)).toInt32) &&& (1431655765 : Int32))) &&& (858993459 : Int32)) + ((((x0 - (((x0.toUInt32 >>> ((1 : Int32).toUInt32 &&& Int32.toUInt32 31)).toInt32) &&& (1431655765 : Int32))).toUInt32 >>> ((2 : Int32).toUInt32 &&& Int32.toUInt32 31)).toInt32) &&& (858993459 : Int32))) + (((((x0 - (((x0.toUInt32 >>> ((1 : Int32).toUInt32 &&& Int32.toUInt32 31)).toInt32) &&& (1431655765 : Int32))) &&& (858993459 : Int32)) + ((((x0 - (((x0.toUInt32 >>> ((1 : Int32).toUInt32 &&& Int32.toUInt32 31)).toInt32) &&& (1431655765 : Int32))).toUInt32 >>> ((2 : Int32).toUInt32 &&& Int32.toUInt32 31)).toInt32) &&& (858993459 : Int32))).toUInt32 >>> ((4 : Int32).toUInt32 &&& Int32.toUInt32 31)).toInt32)) &&& (252645135 : Int32)).toUInt32 >>> ((8 : Int32).toUInt32 &&& Int32.toUInt32 31)).toInt32)).toUInt32 >>> ((16 : Int32).toUInt32 &&& Int32.toUInt32 31)).toInt32)) &&& (63 : Int32))
def fX2_vinegarFor (x0 : Int32) : Option Int32 :=
  if x0 = 0 then
    some (0 : Int32)
  else
    bd (fJ6_bitCount_0f7a4 x0) fun r4 =>
    some ((1 : Int32) + (r4 / (2 : Int32)))
def fX2_passDay_12  (o : Nat) : Nat → Mem → Int32 → Option Mem
  | 0, _, _ => none
  | n + 1, σ, x1 =>
    if (3 : Int32) ≤ x1 then
      some σ
    else
      gd (inb x1 3) (
      bd (fX2_vinegarFor (mA σ o 4 x1.toNatClampNeg)) fun r7 =>
      stp (sI σ o 1 ((mI σ o 1) + r7)) fun σ8 =>
      gd (inb x1 3) (
      gd (inb x1 3) (
      stp (sA σ8 o 5 x1.toNatClampNeg ((mA σ8 o 5 x1.toNatClampNeg) + (1 : Int32))) fun σ9 =>
      fX2_passDay_12 o n σ9 (x1 + 1))))
def fX2_passDay (σ : Mem) (o : Nat) : Option Mem :=
  stp (sI σ o 0 ((mI σ o 0) + (1 : Int32))) fun σ10 =>
  fX2_passDay_12 o FU σ10 (0 : Int32)
def fX2_letGo_14  (o : Nat) : Nat → Mem → Int32 → Int32 → Option Mem
  | 0, _, _, _ => none
  | n + 1, σ, x1, x2 =>
    if (3 : Int32) ≤ x2 then
      some σ
    else
      gd (inb x2 3) (
      gd (inb x2 3) (
      stp (sA σ o 4 x2.toNatClampNeg ((mA σ o 4 x2.toNatClampNeg) &&& (((1 : Int32) <<< (x1 &&& 31)) ^^^ (-1 : Int32)))) fun σ5 =>
      fX2_letGo_14 o n σ5 x1 (x2 + 1)))
def fX2_letGo (σ : Mem) (o : Nat) (x1 : Int32) : Option Mem :=
  stp (sI σ o 2 ((mI σ o 2) ||| ((1 : Int32) <<< (x1 &&& 31)))) fun σ6 =>
  fX2_letGo_14 o FU σ6 x1 (0 : Int32)
def fX3_letSail_2  (o : Nat) : Nat → Mem → Int32 → Int32 → Int32 → Option Mem
  | 0, _, _, _, _ => none
  | n + 1, σ, x1, x2, x3 =>
    if (6 : Int32) ≤ x3 then
      some σ
    else
      if (x1 >>> (x3 &&& 31)) &&& (1 : Int32) = 0 then
        fX3_letSail_2 o n σ x1 x2 (x3 + 1)
      else
        gd (inb x3 6) (
        stp (sA σ o 0 x3.toNatClampNeg x2) fun σ6 =>
        fX3_letSail_2 o n σ6 x1 x2 (x3 + 1))
def fX3_letSail (σ : Mem) (o : Nat) (x1 : Int32) (x2 : Int32) : Option Mem :=
  fX3_letSail_2 o FU σ x1 x2 (0 : Int32)
def fX3_runRow_99 (k11 : Mem → Nat → Int32 → Int32 → Int32 → Int32 → Int32 → Option (Int32 × Mem)) (o : Nat) (σ : Mem) (q1 : Nat) (x2 : Int32) (x3 : Int32) (x5 : Int32) (x6 : Int32) (x7 : Int32) (x9 : Int32) : Option (Int32 × Mem) :=
  k11 σ q1 x2 (x3 ||| ((1 : Int32) <<< (x7 &&& 31))) x9 x5 (x6 + 1)
def fX3_runRow_11  (o : Nat) : Nat → Mem → Nat → Int32 → Int32 → Int32 → Int32 → Int32 → Option (Int32 × Mem)
  | 0, _, _, _, _, _, _, _ => none
  | n + 1, σ, q1, x2, x3, x4, x5, x6 =>
    if mI σ q1 3 ≤ x6 then
      bd (fX1_boatFrom σ q1 (x4 + (mI σ q1 0))) fun r11 =>
      bd (fX3_letSail σ o x3 r11) fun σ12 =>
      bd (fX2_vinegarFor x3) fun r13 =>
      some (x5 + ((r11 - x4) * r13), σ12)
    else
      gd (inb x6 6) (
      if (x2 >>> ((mA σ q1 7 x6.toNatClampNeg) &&& 31)) &&& (1 : Int32) = 0 then
        fX3_runRow_11 o n σ q1 x2 x3 x4 x5 (x6 + 1)
      else
        bd (fX1_boatFrom σ q1 (x4 + (mI σ q1 0))) fun r15 =>
        gd (inb (mA σ q1 7 x6.toNatClampNeg) 6) (
        bd (fX2_vinegarFor x3) fun r16 =>
        if mA σ q1 5 (mA σ q1 7 x6.toNatClampNeg).toNatClampNeg < r15 then
          fX3_runRow_99 (fX3_runRow_11 o n) o σ q1 x2 x3 (x5 + (((mnI r15 (mA σ q1 5 (mA σ q1 7 x6.toNatClampNeg).toNatClampNeg)) - x4) * r16)) x6 (mA σ q1 7 x6.toNatClampNeg) (mA σ q1 5 (mA σ q1 7 x6.toNatClampNeg).toNatClampNeg)
        else
          bd (fX3_letSail σ o x3 r15) fun σ18 =>
          fX3_runRow_99 (fX3_runRow_11 o n) o σ18 q1 x2 (0 : Int32) (x5 + (((mnI r15 (mA σ q1 5 (mA σ q1 7 x6.toNatClampNeg).toNatClampNeg)) - x4) * r16)) x6 (mA σ q1 7 x6.toNatClampNeg) (mA σ q1 5 (mA σ q1 7 x6.toNatClampNeg).toNatClampNeg)))
def fX3_runRow (σ : Mem) (o : Nat) (q1 : Nat) (x2 : Int32) : Option (Int32 × Mem) :=
  fX3_runRow_11 o FU σ q1 x2 (0 : Int32) (0 : Int32) (0 : Int32) (0 : Int32)
def fX3_weigh_42 (k2 : Mem → Nat → Int32 → Int32 → Option Mem) (o : Nat) : Nat → Mem → Nat → Int32 → Int32 → Int32 → Option Mem
  | 0, _, _, _, _, _ => none
  | n + 1, σ, q1, x2, x3, x4 =>
    if mI σ q1 3 ≤ x4 then
      k2 σ q1 x2 (x3 + 1)
    else
      if (x3 >>> (x4 &&& 31)) &&& (1 : Int32) = 0 then
        fX3_weigh_42 k2 o n σ q1 x2 x3 (x4 + 1)
      else
        if x2 = (-9 : Int32) then
          gd (inb x3 64) (
          gd (inb x4 6) (
          gd (inb x3 64) (
          stp (sA σ o 2 x3.toNatClampNeg (mxI (mA σ o 2 x3.toNatClampNeg) (mA σ o 0 x4.toNatClampNeg))) fun σ19 =>
          gd (inb x3 64) (
          gd (inb x4 6) (
          gd (inb x3 64) (
          stp (sA σ19 o 3 x3.toNatClampNeg ((mA σ19 o 3 x3.toNatClampNeg) + (mA σ19 o 0 x4.toNatClampNeg))) fun σ20 =>
          fX3_weigh_42 k2 o n σ20 q1 x2 x3 (x4 + 1)))))))
        else
          gd (inb x4 6) (
          if x2 < mA σ o 0 x4.toNatClampNeg then
            fX3_weigh_42 k2 o n σ q1 x2 x3 (x4 + 1)
          else
            gd (inb x3 64) (
            gd (inb x3 64) (
            stp (sA σ o 3 x3.toNatClampNeg ((mA σ o 3 x3.toNatClampNeg) - (1 : Int32))) fun σ18 =>
            fX3_weigh_42 k2 o n σ18 q1 x2 x3 (x4 + 1))))
def fX3_weigh_2  (o : Nat) : Nat → Mem → Nat → Int32 → Int32 → Option Mem
  | 0, _, _, _, _ => none
  | n + 1, σ, q1, x2, x3 =>
    if (1 : Int32) <<< ((mI σ q1 3) &&& 31) ≤ x3 then
      some σ
    else
      if (64 : Int32) ≤ x3 then
        some σ
      else
        bd2 (fX3_runRow σ o q1 x3) fun r23 σ24 =>
        gd (inb x3 64) (
        stp (sA σ24 o 2 x3.toNatClampNeg (0 : Int32)) fun σ25 =>
        gd (inb x3 64) (
        stp (sA σ25 o 3 x3.toNatClampNeg (0 : Int32)) fun σ26 =>
        fX3_weigh_42 (fX3_weigh_2 o n) o FU σ26 q1 x2 x3 (0 : Int32)))
def fX3_weigh (σ : Mem) (o : Nat) (q1 : Nat) (x2 : Int32) : Option Mem :=
  fX3_weigh_2 o FU σ q1 x2 (0 : Int32)
def fX3_costOfRows_6  (σ : Mem) (o : Nat) : Nat → Int32 → Int32 → Int32 → Option Int32
  | 0, _, _, _ => none
  | n + 1, x1, x2, x3 =>
    if (3 : Int32) ≤ x3 then
      some ((x1 * (1000 : Int32)) + x2)
    else
      gd (inb x3 3) (
      gd (inb (mA σ o 1 x3.toNatClampNeg) 64) (
      gd (inb x3 3) (
      gd (inb (mA σ o 1 x3.toNatClampNeg) 64) (
      fX3_costOfRows_6 σ o n (mxI x1 (mA σ o 2 (mA σ o 1 x3.toNatClampNeg).toNatClampNeg)) (x2 + (mA σ o 3 (mA σ o 1 x3.toNatClampNeg).toNatClampNeg)) (x3 + 1)))))
def fX3_costOfRows (σ : Mem) (o : Nat) : Option Int32 :=
  fX3_costOfRows_6 σ o FU (0 : Int32) (0 : Int32) (0 : Int32)
def fX3_spread_18  (o : Nat) : Nat → Mem → Nat → Int32 → Int32 → Option Mem
  | 0, _, _, _, _ => none
  | n + 1, σ, q1, x3, x4 =>
    if x4 < 0 then
      some σ
    else
      if mI σ q1 1 ≤ 0 then
        some σ
      else
        gd (decide (¬ (mI σ q1 1) = 0)) (
        gd (inb (x3 - x3 / (mI σ q1 1) * (mI σ q1 1)) 3) (
        gd (inb (x3 - x3 / (mI σ q1 1) * (mI σ q1 1)) 3) (
        stp (sA σ o 1 (x3 - x3 / (mI σ q1 1) * (mI σ q1 1)).toNatClampNeg ((mA σ o 1 (x3 - x3 / (mI σ q1 1) * (mI σ q1 1)).toNatClampNeg) ||| ((1 : Int32) <<< (x4 &&& 31)))) fun σ7 =>
        gd (decide (¬ (mI σ7 q1 1) = 0)) (
        fX3_spread_18 o n σ7 q1 (x3 / (mI σ7 q1 1)) (x4 + (-1))))))
def fX3_spread (σ : Mem) (o : Nat) (q1 : Nat) (x2 : Int32) : Option Mem :=
  bd (fJ7_fill_53178 σ o 1 3 (0 : Int32)) fun σ8 =>
  fX3_spread_18 o FU σ8 q1 x2 ((mI σ8 q1 3) - (1 : Int32))
def fX3_findBest_31  (o : Nat) : Nat → Mem → Nat → Int32 → Int32 → Int32 → Option (Int32 × Mem)
  | 0, _, _, _, _, _ => none
  | n + 1, σ, q1, x2, x3, x4 =>
    if x2 ≤ x4 then
      some (x3, σ)
    else
      bd (fX3_spread σ o q1 x4) fun σ8 =>
      bd (fX3_costOfRows σ8 o) fun r9 =>
      if x3 ≤ r9 then
        fX3_findBest_31 o n σ8 q1 x2 x3 (x4 + 1)
      else
        stp (sI σ8 o 4 x4) fun σ11 =>
        fX3_findBest_31 o n σ11 q1 x2 r9 (x4 + 1)
def fX3_findBest_4  (o : Nat) : Nat → Mem → Nat → Int32 → Int32 → Option (Int32 × Mem)
  | 0, _, _, _, _ => none
  | n + 1, σ, q1, x2, x3 =>
    if mI σ q1 3 ≤ x3 then
      fX3_findBest_31 o FU σ q1 x2 (1000000 : Int32) (0 : Int32)
    else
      fX3_findBest_4 o n σ q1 (x2 * (mI σ q1 1)) (x3 + 1)
def fX3_findBest (σ : Mem) (o : Nat) (q1 : Nat) : Option (Int32 × Mem) :=
  fX3_findBest_4 o FU σ q1 (1 : Int32) (0 : Int32)
def fX3_bestRowOf (σ : Mem) (o : Nat) (q1 : Nat) (x2 : Int32) : Option (Int32 × Mem) :=
  bd (fX3_spread σ o q1 (mI σ o 4)) fun σ3 =>
  bd (fX5_rowWith σ3 o 1 3 x2) fun r4 =>
  some (r4, σ3)
def fX3_readFigures_19  (o : Nat) : Nat → Mem → Nat → Int32 → Int32 → Option (Int32 × Mem)
  | 0, _, _, _, _ => none
  | n + 1, σ, q1, x3, x4 =>
    if mI σ q1 3 ≤ x4 then
      if x3 = 0 then
        some ((1 : Int32), σ)
      else
        some ((0 : Int32), σ)
    else
      bd (fX1_hasRow σ q1 (x3 - x3 / (10 : Int32) * (10 : Int32))) fun r10 =>
      if r10 = 0 then
        some ((0 : Int32), σ)
      else
        gd (inb (x3 - x3 / (10 : Int32) * (10 : Int32)) 3) (
        gd (inb (x3 - x3 / (10 : Int32) * (10 : Int32)) 3) (
        stp (sA σ o 1 (x3 - x3 / (10 : Int32) * (10 : Int32)).toNatClampNeg ((mA σ o 1 (x3 - x3 / (10 : Int32) * (10 : Int32)).toNatClampNeg) ||| ((1 : Int32) <<< (x4 &&& 31)))) fun σ12 =>
        fX3_readFigures_19 o n σ12 q1 (x3 / (10 : Int32)) (x4 + 1)))
def fX3_readFigures (σ : Mem) (o : Nat) (q1 : Nat) (x2 : Int32) : Option (Int32 × Mem) :=
  if 0 ≤ x2 then
    bd (fJ7_fill_53178 σ o 1 3 (0 : Int32)) fun σ14 =>
    fX3_readFigures_19 o FU σ14 q1 x2 (0 : Int32)
  else
    some ((0 : Int32), σ)
def fX4_append (σ : Mem) (o : Nat) (x1 : Int32) : Option (Int32 × Mem) :=
  if mI σ o 0 < (200 : Int32) then
    gd (inb (mI σ o 0) 200) (
    stp (sA σ o 1 (mI σ o 0).toNatClampNeg x1) fun σ5 =>
    stp (sI σ5 o 0 ((mI σ5 o 0) + (1 : Int32))) fun σ6 =>
    some ((1 : Int32), σ6))
  else
    some ((0 : Int32), σ)
def fX4_isFigure (x0 : Int32) : Option Int32 :=
  if x0 < (48 : Int32) then
    some (0 : Int32)
  else
    if (57 : Int32) < x0 then
      some (0 : Int32)
    else
      some (1 : Int32)
def fX4_isTokenLetter (x0 : Int32) : Option Int32 :=
  if x0 = (113 : Int32) then
    some (1 : Int32)
  else
    if x0 = (114 : Int32) then
      some (1 : Int32)
    else
      if x0 = (98 : Int32) then
        some (1 : Int32)
      else
        if x0 = (116 : Int32) then
          some (1 : Int32)
        else
          if x0 = (107 : Int32) then
            some (1 : Int32)
          else
            if x0 = (59 : Int32) then
              some (1 : Int32)
            else
              some (0 : Int32)
def fX4_readNumber_114  (o : Nat) (σ : Mem) (xs0 : Int32) : Option Mem :=
  if xs0 = 0 then
    if mI σ o 5 ≤ (1023 : Int32) then
      stp (sI σ o 2 (1 : Int32)) fun σ18 =>
      some σ18
    else
      stp (sI σ o 2 (2 : Int32)) fun σ19 =>
      some σ19
  else
    stp (sI σ o 2 (2 : Int32)) fun σ16 =>
    some σ16
def fX4_readNumber_82  (o : Nat) (σ : Mem) : Option Mem :=
  gd (inb (mI σ o 3) 200) (
  if mA σ o 1 (mI σ o 3).toNatClampNeg = (48 : Int32) then
    if (mI σ o 4) - (mI σ o 3) ≤ (1 : Int32) then
      fX4_readNumber_114 o σ (0 : Int32)
    else
      fX4_readNumber_114 o σ (1 : Int32)
  else
    fX4_readNumber_114 o σ (0 : Int32))
def fX4_readNumber_13  (o : Nat) : Nat → Mem → Option Mem
  | 0, _ => none
  | n + 1, σ =>
    if mI σ o 0 ≤ mI σ o 4 then
      fX4_readNumber_82 o σ
    else
      gd (inb (mI σ o 4) 200) (
      bd (fX4_isFigure (mA σ o 1 (mI σ o 4).toNatClampNeg)) fun r23 =>
      if r23 = 0 then
        fX4_readNumber_82 o σ
      else
        gd (inb (mI σ o 4) 200) (
        stp (sI σ o 5 (mnI ((((mI σ o 5) * (10 : Int32)) + (mA σ o 1 (mI σ o 4).toNatClampNeg)) - (48 : Int32)) (1024 : Int32))) fun σ25 =>
        stp (sI σ25 o 4 ((mI σ25 o 4) + (1 : Int32))) fun σ26 =>
        fX4_readNumber_13 o n σ26))
def fX4_readNumber (σ : Mem) (o : Nat) : Option Mem :=
  stp (sI σ o 5 (0 : Int32)) fun σ27 =>
  stp (sI σ27 o 4 (mI σ27 o 3)) fun σ28 =>
  fX4_readNumber_13 o FU σ28
def fX4_nextToken_46  (o : Nat) (σ : Mem) : Option Mem :=
  if mI σ o 3 < mI σ o 0 then
    gd (inb (mI σ o 3) 200) (
    bd (fX4_isFigure (mA σ o 1 (mI σ o 3).toNatClampNeg)) fun r18 =>
    if r18 = 0 then
      gd (inb (mI σ o 3) 200) (
      bd (fX4_isTokenLetter (mA σ o 1 (mI σ o 3).toNatClampNeg)) fun r20 =>
      if r20 = 0 then
        stp (sI σ o 2 (2 : Int32)) fun σ22 =>
        stp (sI σ22 o 4 ((mI σ22 o 3) + (1 : Int32))) fun σ23 =>
        some σ23
      else
        gd (inb (mI σ o 3) 200) (
        stp (sI σ o 2 (mA σ o 1 (mI σ o 3).toNatClampNeg)) fun σ24 =>
        stp (sI σ24 o 4 ((mI σ24 o 3) + (1 : Int32))) fun σ25 =>
        some σ25))
    else
      bd (fX4_readNumber σ o) fun σ26 =>
      some σ26)
  else
    stp (sI σ o 2 (0 : Int32)) fun σ27 =>
    stp (sI σ27 o 4 (mI σ27 o 3)) fun σ28 =>
    some σ28
def fX4_nextToken_8  (o : Nat) : Nat → Mem → Option Mem
  | 0, _ => none
  | n + 1, σ =>
    if mI σ o 0 ≤ mI σ o 3 then
      fX4_nextToken_46 o σ
    else
      gd (inb (mI σ o 3) 200) (
      if mA σ o 1 (mI σ o 3).toNatClampNeg = (32 : Int32) then
        stp (sI σ o 3 ((mI σ o 3) + (1 : Int32))) fun σ31 =>
        fX4_nextToken_8 o n σ31
      else
        fX4_nextToken_46 o σ)
def fX4_nextToken (σ : Mem) (o : Nat) : Option Mem :=
  stp (sI σ o 3 (mI σ o 4)) fun σ32 =>
  fX4_nextToken_8 o FU σ32
def fX4_goesWithM (σ : Mem) (o : Nat) : Option Int32 :=
  gd (inb (1 : Int32) 3) (
  if mA σ o 6 (1 : Int32).toNatClampNeg = (10 : Int32) then
    if mI σ o 5 = (10 : Int32) then
      some (1 : Int32)
    else
      some (0 : Int32)
  else
    if (10 : Int32) ≤ mI σ o 5 then
      some (0 : Int32)
    else
      if mI σ o 5 = mA σ o 6 (1 : Int32).toNatClampNeg then
        some (0 : Int32)
      else
        some (1 : Int32))
def fX4_fits_127  (σ : Mem) (o : Nat) (xs0 : Int32) (xs1 : Int32) : Option Int32 :=
  if xs0 < xs1 then
    some (0 : Int32)
  else
    some (1 : Int32)
def fX4_fits (σ : Mem) (o : Nat) (x1 : Int32) (x2 : Int32) : Option Int32 :=
  if x1 = (98 : Int32) then
    if mI σ o 5 < (1 : Int32) then
      some (0 : Int32)
    else
      if (9 : Int32) < mI σ o 5 then
        some (0 : Int32)
      else
        some (1 : Int32)
  else
    if x1 = (113 : Int32) then
      if mI σ o 5 < (1 : Int32) then
        some (0 : Int32)
      else
        if (40 : Int32) < mI σ o 5 then
          some (0 : Int32)
        else
          some (1 : Int32)
    else
      if x1 = (114 : Int32) then
        if mI σ o 5 < (1 : Int32) then
          some (0 : Int32)
        else
          if (3 : Int32) < mI σ o 5 then
            some (0 : Int32)
          else
            some (1 : Int32)
      else
        if x1 = (116 : Int32) then
          if x2 = 0 then
            fX4_fits_127 σ o (40 : Int32) (mI σ o 5)
          else
            fX4_fits_127 σ o (10 : Int32) (mI σ o 5)
        else
          if x2 = 0 then
            if (1023 : Int32) < mI σ o 5 then
              some (0 : Int32)
            else
              some (1 : Int32)
          else
            if x2 = (1 : Int32) then
              if (10 : Int32) < mI σ o 5 then
                some (0 : Int32)
              else
                some (1 : Int32)
            else
              bd (fX4_goesWithM σ o) fun r32 =>
              gd (zb r32) (
              some r32)
def fX4_mayBegin (σ : Mem) (o : Nat) (x1 : Int32) (q2 : Nat) : Option Int32 :=
  if x1 = (98 : Int32) then
    if mI σ o 9 = 0 then
      some (1 : Int32)
    else
      some (0 : Int32)
  else
    if x1 = (107 : Int32) then
      if (4 : Int32) ≤ mI σ q2 4 then
        some (0 : Int32)
      else
        some (1 : Int32)
    else
      if x1 = (113 : Int32) then
        if mI σ o 7 = 0 then
          some (1 : Int32)
        else
          some (0 : Int32)
      else
        if x1 = (114 : Int32) then
          if mI σ o 8 = 0 then
            some (1 : Int32)
          else
            some (0 : Int32)
        else
          if x1 = (116 : Int32) then
            if (6 : Int32) ≤ mI σ q2 3 then
              some (0 : Int32)
            else
              some (1 : Int32)
          else
            some (0 : Int32)
def fX4_tell (σ : Mem) (o : Nat) (x1 : Int32) (q2 : Nat) : Option Mem :=
  if x1 = (98 : Int32) then
    gd (inb (0 : Int32) 3) (
    stp (sI σ q2 2 (mA σ o 6 (0 : Int32).toNatClampNeg)) fun σ14 =>
    stp (sI σ14 o 9 (1 : Int32)) fun σ15 =>
    some σ15)
  else
    if x1 = (113 : Int32) then
      gd (inb (0 : Int32) 3) (
      stp (sI σ q2 0 (mA σ o 6 (0 : Int32).toNatClampNeg)) fun σ17 =>
      stp (sI σ17 o 7 (1 : Int32)) fun σ18 =>
      some σ18)
    else
      if x1 = (114 : Int32) then
        gd (inb (0 : Int32) 3) (
        stp (sI σ q2 1 (mA σ o 6 (0 : Int32).toNatClampNeg)) fun σ20 =>
        stp (sI σ20 o 8 (1 : Int32)) fun σ21 =>
        some σ21)
      else
        if x1 = (116 : Int32) then
          gd (inb (0 : Int32) 3) (
          gd (inb (1 : Int32) 3) (
          bd (fX1_addTraveller σ q2 (mA σ o 6 (0 : Int32).toNatClampNeg) (mA σ o 6 (1 : Int32).toNatClampNeg)) fun σ23 =>
          some σ23))
        else
          gd (inb (0 : Int32) 3) (
          gd (inb (1 : Int32) 3) (
          gd (inb (2 : Int32) 3) (
          bd (fX1_addClerk σ q2 (mA σ o 6 (0 : Int32).toNatClampNeg) (mA σ o 6 (1 : Int32).toNatClampNeg) (mA σ o 6 (2 : Int32).toNatClampNeg)) fun σ24 =>
          some σ24)))
def fX4_readItem_41  (o : Nat) : Nat → Mem → Nat → Int32 → Int32 → Int32 → Option (Int32 × Mem)
  | 0, _, _, _, _, _ => none
  | n + 1, σ, q1, x2, x3, x4 =>
    if x3 ≤ x4 then
      bd (fX4_nextToken σ o) fun σ15 =>
      if mI σ15 o 2 = (59 : Int32) then
        bd (fX4_tell σ15 o x2 q1) fun σ17 =>
        some ((1 : Int32), σ17)
      else
        some ((0 : Int32), σ15)
    else
      bd (fX4_nextToken σ o) fun σ18 =>
      if mI σ18 o 2 = (1 : Int32) then
        bd (fX4_fits σ18 o x2 x4) fun r20 =>
        if r20 = 0 then
          some ((0 : Int32), σ18)
        else
          gd (inb x4 3) (
          stp (sA σ18 o 6 x4.toNatClampNeg (mI σ18 o 5)) fun σ22 =>
          fX4_readItem_41 o n σ22 q1 x2 x3 (x4 + 1))
      else
        some ((0 : Int32), σ18)
def fX4_readItem (σ : Mem) (o : Nat) (q1 : Nat) : Option (Int32 × Mem) :=
  bd (fX4_mayBegin σ o (mI σ o 2) q1) fun r23 =>
  if r23 = 0 then
    some ((0 : Int32), σ)
  else
    if mI σ o 2 = (107 : Int32) then
      fX4_readItem_41 o FU σ q1 (mI σ o 2) (3 : Int32) (0 : Int32)
    else
      if mI σ o 2 = (116 : Int32) then
        fX4_readItem_41 o FU σ q1 (mI σ o 2) (2 : Int32) (0 : Int32)
      else
        fX4_readItem_41 o FU σ q1 (mI σ o 2) (1 : Int32) (0 : Int32)
def fX4_readInto_26  (o : Nat) : Nat → Mem → Nat → Int32 → Option (Int32 × Mem)
  | 0, _, _, _ => none
  | n + 1, σ, q1, x2 =>
    if (200 : Int32) < x2 then
      some ((-10 : Int32) - (mI σ o 3), σ)
    else
      bd (fX4_nextToken σ o) fun σ13 =>
      if mI σ13 o 2 = 0 then
        some (x2, σ13)
      else
        bd2 (fX4_readItem σ13 o q1) fun r15 σ16 =>
        if r15 = 0 then
          some ((-10 : Int32) - (mI σ16 o 3), σ16)
        else
          fX4_readInto_26 o n σ16 q1 (x2 + 1)
def fX4_readInto (σ : Mem) (o : Nat) (q1 : Nat) : Option (Int32 × Mem) :=
  bd (fX1_forget σ q1) fun σ18 =>
  stp (sI σ18 o 4 (0 : Int32)) fun σ19 =>
  stp (sI σ19 o 7 (0 : Int32)) fun σ20 =>
  stp (sI σ20 o 8 (0 : Int32)) fun σ21 =>
  stp (sI σ21 o 9 (0 : Int32)) fun σ22 =>
  fX4_readInto_26 o FU σ22 q1 (0 : Int32)
def fX5_type (σ : Mem) (o : Nat) (x1 : Int32) : Option (Int32 × Mem) :=
  if x1 < 0 then
    some ((-1 : Int32), σ)
  else
    if x1 ≤ (255 : Int32) then
      bd2 (fX4_append σ (mP σ o 0) x1) fun r11 σ12 =>
      if r11 = 0 then
        some ((-3 : Int32), σ12)
      else
        some (mI σ12 (mP σ12 o 0) 0, σ12)
    else
      some ((-1 : Int32), σ)
def fX5_clear (σ : Mem) (o : Nat) : Option (Int32 × Mem) :=
  stp (sI σ (mP σ o 0) 0 (0 : Int32)) fun σ6 =>
  some (mI σ (mP σ o 0) 0, σ6)
def fX5_island (σ : Mem) (o : Nat) : Option (Int32 × Mem) :=
  bd2 (fX4_readInto σ (mP σ o 0) (mP σ o 2)) fun r20 σ21 =>
  if 0 ≤ r20 then
    stp (sP σ21 o 1 (mP σ21 o 2)) fun σ25 =>
    stp (sP σ25 o 2 (mP σ21 o 1)) fun σ26 =>
    stp (sI σ26 (mP σ26 o 0) 0 (0 : Int32)) fun σ28 =>
    bd (fX2_beginAnew σ28 (mP σ28 o 3)) fun σ30 =>
    stp (sI σ30 (mP σ30 o 4) 0 (0 : Int32)) fun σ32 =>
    stp (sI σ32 o 6 (0 : Int32)) fun σ33 =>
    stp (sI σ33 o 10 (0 : Int32)) fun σ34 =>
    some (r20, σ34)
  else
    some (r20, σ21)
def fX5_traveller (σ : Mem) (o : Nat) (x1 : Int32) (x2 : Int32) : Option Int32 :=
  bd (fX1_hasTraveller σ (mP σ o 1) x1) fun r19 =>
  if r19 = 0 then
    some (-1 : Int32)
  else
    if x2 = (0 : Int32) then
      gd (inb x1 6) (
      some (mA σ (mP σ o 1) 5 x1.toNatClampNeg))
    else
      if x2 = (1 : Int32) then
        gd (inb x1 6) (
        some (mA σ (mP σ o 1) 6 x1.toNatClampNeg))
      else
        if x2 = (2 : Int32) then
          bd (fX2_rowOf σ (mP σ o 3) x1) fun r27 =>
          some r27
        else
          if x2 = (3 : Int32) then
            bd (fX2_daysInRow σ (mP σ o 3) x1) fun r30 =>
            some r30
          else
            if x2 = (4 : Int32) then
              bd (fX2_isGone σ (mP σ o 3) x1) fun r33 =>
              if r33 = 0 then
                some (0 : Int32)
              else
                some (1 : Int32)
            else
              some (-1 : Int32)
def fX5_clerk (σ : Mem) (o : Nat) (x1 : Int32) (x2 : Int32) : Option Int32 :=
  bd (fX1_hasClerk σ (mP σ o 1) x1) fun r11 =>
  if r11 = 0 then
    some (-1 : Int32)
  else
    if x2 = (0 : Int32) then
      gd (inb x1 4) (
      some (mA σ (mP σ o 1) 8 x1.toNatClampNeg))
    else
      if x2 = (1 : Int32) then
        gd (inb x1 4) (
        some (mA σ (mP σ o 1) 9 x1.toNatClampNeg))
      else
        if x2 = (2 : Int32) then
          gd (inb x1 4) (
          some (mA σ (mP σ o 1) 10 x1.toNatClampNeg))
        else
          some (-1 : Int32)
def fX5_now (σ : Mem) (o : Nat) (x1 : Int32) : Option Int32 :=
  if x1 = (0 : Int32) then
    some (mI σ (mP σ o 3) 0)
  else
    if x1 = (1 : Int32) then
      some (mI σ (mP σ o 3) 1)
    else
      if x1 = (2 : Int32) then
        bd (fX2_mayLeave σ (mP σ o 3) (mI σ (mP σ o 1) 0) (0 : Int32)) fun r25 =>
        some r25
      else
        if x1 = (3 : Int32) then
          some (mI σ (mP σ o 3) 2)
        else
          if x1 = (4 : Int32) then
            bd (fX1_boatSailsOn σ (mP σ o 1) (mI σ (mP σ o 3) 0)) fun r31 =>
            if r31 = 0 then
              some (0 : Int32)
            else
              some (1 : Int32)
          else
            if x1 = (5 : Int32) then
              some (mI σ (mP σ o 4) 0)
            else
              some (-1 : Int32)
def fX5_puts (σ : Mem) (o : Nat) (x1 : Int32) (x2 : Int32) : Option (Int32 × Mem) :=
  bd (fX1_hasTraveller σ (mP σ o 1) x1) fun r26 =>
  if r26 = 0 then
    some ((-1 : Int32), σ)
  else
    bd (fX1_hasRow σ (mP σ o 1) x2) fun r29 =>
    if r29 = 0 then
      some ((-1 : Int32), σ)
    else
      gd (inb x1 6) (
      if mI σ (mP σ o 3) 0 < mA σ (mP σ o 1) 5 x1.toNatClampNeg then
        some ((-2 : Int32), σ)
      else
        bd (fX2_rowOf σ (mP σ o 3) x1) fun r35 =>
        if r35 = (-9 : Int32) then
          bd (fX2_isGone σ (mP σ o 3) x1) fun r38 =>
          if r38 = 0 then
            bd (fX0_remember σ (mP σ o 4) (mP σ o 3)) fun σ42 =>
            gd (inb x2 3) (
            gd (inb x2 3) (
            stp (sA σ42 (mP σ42 o 3) 4 x2.toNatClampNeg ((mA σ42 (mP σ42 o 3) 4 x2.toNatClampNeg) ||| ((1 : Int32) <<< (x1 &&& 31)))) fun σ44 =>
            gd (inb x2 3) (
            stp (sA σ44 (mP σ44 o 3) 5 x2.toNatClampNeg (0 : Int32)) fun σ46 =>
            gd (inb x2 3) (
            bd (fJ6_bitCount_0f7a4 (mA σ46 (mP σ46 o 3) 4 x2.toNatClampNeg)) fun r48 =>
            some (r48, σ46)))))
          else
            some ((-2 : Int32), σ)
        else
          some ((-2 : Int32), σ))
def fX5_day (σ : Mem) (o : Nat) : Option (Int32 × Mem) :=
  if mI σ (mP σ o 3) 0 < (200 : Int32) then
    bd (fX0_remember σ (mP σ o 4) (mP σ o 3)) fun σ15 =>
    bd (fX2_passDay σ15 (mP σ15 o 3)) fun σ17 =>
    bd (fX2_mayLeave σ17 (mP σ17 o 3) (mI σ17 (mP σ17 o 1) 0) (0 : Int32)) fun r20 =>
    some (r20, σ17)
  else
    some ((-2 : Int32), σ)
def fX5_sails_40  (o : Nat) (σ : Mem) (x1 : Int32) (xs0 : Int32) : Option (Int32 × Mem) :=
  if xs0 = 0 then
    some ((-2 : Int32), σ)
  else
    bd (fX1_boatSailsOn σ (mP σ o 1) (mI σ (mP σ o 3) 0)) fun r23 =>
    if r23 = 0 then
      some ((-2 : Int32), σ)
    else
      bd (fX0_remember σ (mP σ o 4) (mP σ o 3)) fun σ27 =>
      bd (fX2_letGo σ27 (mP σ27 o 3) x1) fun σ29 =>
      bd (fJ6_bitCount_0f7a4 (mI σ29 (mP σ29 o 3) 2)) fun r31 =>
      some (r31, σ29)
def fX5_sails (σ : Mem) (o : Nat) (x1 : Int32) : Option (Int32 × Mem) :=
  bd (fX1_hasTraveller σ (mP σ o 1) x1) fun r33 =>
  if r33 = 0 then
    some ((-1 : Int32), σ)
  else
    bd (fX2_mayLeave σ (mP σ o 3) (mI σ (mP σ o 1) 0) (0 : Int32)) fun r37 =>
    if (r37 >>> (x1 &&& 31)) &&& (1 : Int32) = 0 then
      fX5_sails_40 o σ x1 (0 : Int32)
    else
      fX5_sails_40 o σ x1 (1 : Int32)
def fX5_undo (σ : Mem) (o : Nat) : Option (Int32 × Mem) :=
  if mI σ (mP σ o 4) 0 = 0 then
    some ((-2 : Int32), σ)
  else
    bd (fX0_takeBack σ (mP σ o 4) (mP σ o 3)) fun σ11 =>
    some (mI σ11 (mP σ11 o 4) 0, σ11)
def fX5_isNoneOrTraveller (σ : Mem) (o : Nat) (x1 : Int32) : Option Int32 :=
  if x1 = (-9 : Int32) then
    some (1 : Int32)
  else
    bd (fX1_hasTraveller σ (mP σ o 1) x1) fun r7 =>
    if r7 = 0 then
      some (0 : Int32)
    else
      some (1 : Int32)
def fX5_most (σ : Mem) (o : Nat) (x1 : Int32) (x2 : Int32) : Option (Int32 × Mem) :=
  if x1 < 0 then
    some ((-1 : Int32), σ)
  else
    if (200 : Int32) < x1 then
      some ((-1 : Int32), σ)
    else
      bd (fX5_isNoneOrTraveller σ o x2) fun r19 =>
      if r19 = 0 then
        some ((-1 : Int32), σ)
      else
        bd (fX3_weigh σ (mP σ o 7) (mP σ o 1) x1) fun σ23 =>
        bd2 (fX3_findBest σ23 (mP σ23 o 7) (mP σ23 o 1)) fun r26 σ27 =>
        if x2 = (-9 : Int32) then
          some (-r26, σ27)
        else
          bd2 (fX3_bestRowOf σ27 (mP σ27 o 7) (mP σ27 o 1) x2) fun r31 σ32 =>
          some (r31, σ32)
def fX5_soonest (σ : Mem) (o : Nat) (x1 : Int32) : Option (Int32 × Mem) :=
  bd (fX5_isNoneOrTraveller σ o x1) fun r15 =>
  if r15 = 0 then
    some ((-1 : Int32), σ)
  else
    bd (fX3_weigh σ (mP σ o 7) (mP σ o 1) (-9 : Int32)) fun σ19 =>
    bd2 (fX3_findBest σ19 (mP σ19 o 7) (mP σ19 o 1)) fun r22 σ23 =>
    if x1 = (-9 : Int32) then
      some (r22 / (1000 : Int32), σ23)
    else
      bd2 (fX3_bestRowOf σ23 (mP σ23 o 7) (mP σ23 o 1) x1) fun r27 σ28 =>
      some (r27, σ28)
def fX5_plan_30  (o : Nat) : Nat → Mem → Int32 → Int32 → Int32 → Option (Int32 × Mem)
  | 0, _, _, _, _ => none
  | n + 1, σ, x2, x3, x4 =>
    if (3 : Int32) ≤ x4 then
      if x2 = (-9 : Int32) then
        some (x3, σ)
      else
        gd (inb x2 6) (
        some (mA σ (mP σ o 7) 0 x2.toNatClampNeg, σ))
    else
      gd (inb x4 3) (
      bd2 (fX3_runRow σ (mP σ o 7) (mP σ o 1) (mA σ (mP σ o 7) 1 x4.toNatClampNeg)) fun r22 σ23 =>
      fX5_plan_30 o n σ23 x2 (x3 + r22) (x4 + 1))
def fX5_plan (σ : Mem) (o : Nat) (x1 : Int32) (x2 : Int32) : Option (Int32 × Mem) :=
  bd (fX5_isNoneOrTraveller σ o x2) fun r24 =>
  if r24 = 0 then
    some ((-1 : Int32), σ)
  else
    bd2 (fX3_readFigures σ (mP σ o 7) (mP σ o 1) x1) fun r28 σ29 =>
    if r28 = 0 then
      some ((-1 : Int32), σ29)
    else
      fX5_plan_30 o FU σ29 x2 (0 : Int32) (0 : Int32)
def fX5_waits (σ : Mem) (o : Nat) (x1 : Int32) : Option Int32 :=
  bd (fX1_hasTraveller σ (mP σ o 1) x1) fun r11 =>
  if r11 = 0 then
    some (-1 : Int32)
  else
    bd (fX2_rowOf σ (mP σ o 3) x1) fun r14 =>
    if r14 = (-9 : Int32) then
      some (-2 : Int32)
    else
      bd (fX2_daysInRow σ (mP σ o 3) x1) fun r18 =>
      some (mxI (0 : Int32) ((mI σ (mP σ o 1) 0) - r18))
def fX5_boat_31  (σ : Mem) (o : Nat) : Nat → Int32 → Int32 → Int32 → Int32 → Int32 → Option Int32
  | 0, _, _, _, _, _ => none
  | n + 1, x1, x2, x3, x4, x5 =>
    if x1 < x5 then
      if x3 = (-9 : Int32) then
        some (-9 : Int32)
      else
        if x2 = 0 then
          some x3
        else
          some x4
    else
      bd (fX2_mayLeave σ (mP σ o 3) (mI σ (mP σ o 1) 0) x5) fun r23 =>
      bd (fJ6_bitCount_0f7a4 r23) fun r24 =>
      if r24 ≤ x4 then
        fX5_boat_31 σ o n x1 x2 x3 x4 (x5 + 1)
      else
        bd (fX1_boatSailsOn σ (mP σ o 1) ((mI σ (mP σ o 3) 0) + x5)) fun r28 =>
        if r28 = 0 then
          fX5_boat_31 σ o n x1 x2 x3 x4 (x5 + 1)
        else
          fX5_boat_31 σ o n x1 x2 ((mI σ (mP σ o 3) 0) + x5) r24 (x5 + 1)
def fX5_boat (σ : Mem) (o : Nat) (x1 : Int32) (x2 : Int32) : Option Int32 :=
  if x1 < (1 : Int32) then
    some (-1 : Int32)
  else
    if (60 : Int32) < x1 then
      some (-1 : Int32)
    else
      if x2 < 0 then
        some (-1 : Int32)
      else
        if x2 ≤ (1 : Int32) then
          fX5_boat_31 σ o FU x1 x2 (-9 : Int32) (0 : Int32) (0 : Int32)
        else
          some (-1 : Int32)
def fX5_inLeastTerms_39   (x0 : Int32) (x1 : Int32) (x2 : Int32) (x3 : Int32) : Option Int32 :=
  if x3 = 0 then
    some (-1 : Int32)
  else
    if x2 = 0 then
      gd (decide (¬ x3 = 0)) (
      some (x0 / x3))
    else
      gd (decide (¬ x3 = 0)) (
      some (x1 / x3))
def fX5_inLeastTerms_8   : Nat → Int32 → Int32 → Int32 → Int32 → Int32 → Int32 → Option Int32
  | 0, _, _, _, _, _, _ => none
  | n + 1, x0, x1, x2, x3, x4, x5 =>
    if (64 : Int32) ≤ x5 then
      fX5_inLeastTerms_39 x0 x1 x2 x3
    else
      if x4 = 0 then
        fX5_inLeastTerms_39 x0 x1 x2 x3
      else
        gd (decide (¬ x4 = 0)) (
        fX5_inLeastTerms_8 n x0 x1 x2 x4 (x3 - x3 / x4 * x4) (x5 + 1))
def fX5_inLeastTerms (x0 : Int32) (x1 : Int32) (x2 : Int32) : Option Int32 :=
  fX5_inLeastTerms_8 FU x0 x1 x2 x1 x0 (0 : Int32)
def fX5_clean_32  (σ : Mem) (o : Nat) : Nat → Int32 → Int32 → Int32 → Int32 → Int32 → Option Int64
  | 0, _, _, _, _, _ => none
  | n + 1, x1, x2, x3, x4, x5 =>
    if mI σ (mP σ o 1) 3 ≤ x5 then
      bd (fX5_inLeastTerms x3 x4 x2) fun r14 =>
      some (r14.toInt64)
    else
      gd (inb x1 3) (
      if ((mA σ (mP σ o 3) 4 x1.toNatClampNeg) >>> (x5 &&& 31)) &&& (1 : Int32) = 0 then
        fX5_clean_32 σ o n x1 x2 x3 x4 (x5 + 1)
      else
        gd (inb x5 6) (
        fX5_clean_32 σ o n x1 x2 (x3 * ((10 : Int32) - (mA σ (mP σ o 1) 6 x5.toNatClampNeg))) (x4 * (10 : Int32)) (x5 + 1)))
def fX5_clean (σ : Mem) (o : Nat) (x1 : Int32) (x2 : Int32) : Option Int64 :=
  bd (fX1_hasRow σ (mP σ o 1) x1) fun r19 =>
  if r19 = 0 then
    some (-1 : Int64)
  else
    if x2 < 0 then
      some (-1 : Int64)
    else
      if x2 ≤ (1 : Int32) then
        fX5_clean_32 σ o FU x1 x2 (1 : Int32) (1 : Int32) (0 : Int32)
      else
        some (-1 : Int64)
def fX5_countSickWays_50 (k17 : Mem → Int32 → Int32 → Option Mem) (o : Nat) : Nat → Mem → Int32 → Int32 → Int32 → Int32 → Option Mem
  | 0, _, _, _, _, _ => none
  | n + 1, σ, x1, x2, x3, x4 =>
    if x4 ≤ 0 then
      gd (inb (0 : Int32) 7) (
      gd (inb (0 : Int32) 7) (
      stp (sA σ o 12 (0 : Int32).toNatClampNeg ((mA σ o 12 (0 : Int32).toNatClampNeg) * ((10 : Int32) - x3))) fun σ11 =>
      k17 σ11 x1 (x2 + 1)))
    else
      gd (inb x4 7) (
      gd (inb (x4 - (1 : Int32)) 7) (
      gd (inb x4 7) (
      stp (sA σ o 12 x4.toNatClampNeg (((mA σ o 12 x4.toNatClampNeg) * ((10 : Int32) - x3)) + ((mA σ o 12 (x4 - (1 : Int32)).toNatClampNeg) * x3))) fun σ12 =>
      fX5_countSickWays_50 k17 o n σ12 x1 x2 x3 (x4 + (-1)))))
def fX5_countSickWays_17  (o : Nat) : Nat → Mem → Int32 → Int32 → Option Mem
  | 0, _, _, _ => none
  | n + 1, σ, x1, x2 =>
    if mI σ (mP σ o 1) 3 ≤ x2 then
      some σ
    else
      if x2 = x1 then
        fX5_countSickWays_17 o n σ x1 (x2 + 1)
      else
        gd (inb x2 6) (
        fX5_countSickWays_50 (fX5_countSickWays_17 o n) o FU σ x1 x2 (mA σ (mP σ o 1) 6 x2.toNatClampNeg) (6 : Int32))
def fX5_countSickWays (σ : Mem) (o : Nat) (x1 : Int32) : Option Mem :=
  bd (fJ7_fill_53178 σ o 12 7 (0 : Int32)) fun σ17 =>
  gd (inb (0 : Int32) 7) (
  stp (sA σ17 o 12 (0 : Int32).toNatClampNeg (1 : Int32)) fun σ18 =>
  fX5_countSickWays_17 o FU σ18 x1 (0 : Int32))
def fX5_well_86  (o : Nat) (σ : Mem) (x3 : Int32) (x4 : Int32) (xs0 : Int32) : Option (Int64 × Mem) :=
  if x4 + xs0 = 0 then
    some ((-9 : Int64), σ)
  else
    bd (fX5_inLeastTerms x4 (x4 + xs0) x3) fun r15 =>
    some (r15.toInt64, σ)
def fX5_well (σ : Mem) (o : Nat) (x1 : Int32) (x2 : Int32) (x3 : Int32) : Option (Int64 × Mem) :=
  bd (fX1_hasTraveller σ (mP σ o 1) x1) fun r17 =>
  if r17 = 0 then
    some ((-1 : Int64), σ)
  else
    if x2 < 0 then
      some ((-1 : Int64), σ)
    else
      if (6 : Int32) < x2 then
        some ((-1 : Int64), σ)
      else
        if x3 < 0 then
          some ((-1 : Int64), σ)
        else
          if x3 ≤ (1 : Int32) then
            bd (fX5_countSickWays σ o x1) fun σ23 =>
            gd (inb x1 6) (
            gd (inb x2 7) (
            if x2 = 0 then
              fX5_well_86 o σ23 x3 (((10 : Int32) - (mA σ23 (mP σ23 o 1) 6 x1.toNatClampNeg)) * (mA σ23 o 12 x2.toNatClampNeg)) (0 : Int32)
            else
              gd (inb x1 6) (
              gd (inb (x2 - (1 : Int32)) 7) (
              fX5_well_86 o σ23 x3 (((10 : Int32) - (mA σ23 (mP σ23 o 1) 6 x1.toNatClampNeg)) * (mA σ23 o 12 x2.toNatClampNeg)) ((mA σ23 (mP σ23 o 1) 6 x1.toNatClampNeg) * (mA σ23 o 12 (x2 - (1 : Int32)).toNatClampNeg))))))
          else
            some ((-1 : Int64), σ)
def fX5_lengthOf_4   : Nat → Int32 → Int32 → Option Int32
  | 0, _, _ => none
  | n + 1, x1, x2 =>
    if x2 < (11 : Int32) then
      some x1
    else
      if (5 : Int32) ≤ x1 then
        some x1
      else
        fX5_lengthOf_4 n (x1 + 1) (x2 / (11 : Int32))
def fX5_lengthOf (x0 : Int32) : Option Int32 :=
  fX5_lengthOf_4 FU (0 : Int32) x0
def fX5_writes (σ : Mem) (o : Nat) (x1 : Int32) : Option (Int32 × Mem) :=
  if x1 < 0 then
    some ((-1 : Int32), σ)
  else
    if x1 < (10 : Int32) then
      bd (fX5_lengthOf (mI σ (mP σ o 3) 3)) fun r15 =>
      if r15 < (5 : Int32) then
        bd (fX0_remember σ (mP σ o 4) (mP σ o 3)) fun σ19 =>
        stp (sI σ19 (mP σ19 o 3) 3 (((mI σ19 (mP σ19 o 3) 3) * (11 : Int32)) + x1)) fun σ22 =>
        some (r15 + (1 : Int32), σ22)
      else
        some ((-3 : Int32), σ)
    else
      some ((-1 : Int32), σ)
def fX5_tears (σ : Mem) (o : Nat) : Option (Int32 × Mem) :=
  bd (fX0_remember σ (mP σ o 4) (mP σ o 3)) fun σ10 =>
  bd (fX5_lengthOf (mI σ10 (mP σ10 o 3) 3)) fun r12 =>
  stp (sI σ10 (mP σ10 o 3) 3 (1 : Int32)) fun σ14 =>
  some (r12, σ14)
def fX5_lostIn_4   : Nat → Int32 → Int32 → Option Int32
  | 0, _, _ => none
  | n + 1, x1, x2 =>
    if x2 < (11 : Int32) then
      some x1
    else
      if x2 - x2 / (11 : Int32) * (11 : Int32) = (10 : Int32) then
        fX5_lostIn_4 n (x1 + 1) (x2 / (11 : Int32))
      else
        fX5_lostIn_4 n x1 (x2 / (11 : Int32))
def fX5_lostIn (x0 : Int32) : Option Int32 :=
  fX5_lostIn_4 FU (0 : Int32) x0
def fX5_smokes (σ : Mem) (o : Nat) (x1 : Int32) : Option (Int32 × Mem) :=
  bd (fX1_hasClerk σ (mP σ o 1) x1) fun r15 =>
  if r15 = 0 then
    some ((-1 : Int32), σ)
  else
    bd (fX0_remember σ (mP σ o 4) (mP σ o 3)) fun σ19 =>
    bd (fX1_smoked σ19 (mP σ19 o 1) (mI σ19 (mP σ19 o 3) 3) x1) fun r23 =>
    stp (sI σ19 (mP σ19 o 3) 3 r23) fun σ24 =>
    bd (fX5_lostIn (mI σ24 (mP σ24 o 3) 3)) fun r26 =>
    some (r26, σ24)
def fX5_wordAt_9   : Nat → Int32 → Int32 → Int32 → Option Int32
  | 0, _, _, _ => none
  | n + 1, x1, x2, x3 =>
    if x3 ≤ x1 then
      some (x2 - x2 / (11 : Int32) * (11 : Int32))
    else
      fX5_wordAt_9 n x1 (x2 / (11 : Int32)) (x3 + (-1))
def fX5_wordAt (x0 : Int32) (x1 : Int32) : Option Int32 :=
  bd (fX5_lengthOf x0) fun r4 =>
  fX5_wordAt_9 FU x1 x0 (r4 - (1 : Int32))
def fX5_word (σ : Mem) (o : Nat) (x1 : Int32) : Option Int32 :=
  if x1 < 0 then
    some (-1 : Int32)
  else
    bd (fX5_lengthOf (mI σ (mP σ o 3) 3)) fun r9 =>
    if x1 < r9 then
      bd (fX5_wordAt (mI σ (mP σ o 3) 3) x1) fun r12 =>
      some r12
    else
      some (-1 : Int32)
def fX5_brownLength (σ : Mem) (o : Nat) : Option Int32 :=
  if mI σ o 10 = 0 then
    some (0 : Int32)
  else
    gd (inb (0 : Int32) 4) (
    bd (fX5_lengthOf (mA σ o 8 (0 : Int32).toNatClampNeg)) fun r4 =>
    some r4)
def fX5_brown_46  (o : Nat) (σ : Mem) (x1 : Int32) : Option (Int32 × Mem) :=
  if mI σ o 10 < (4 : Int32) then
    gd (inb (mI σ o 10) 4) (
    stp (sA σ o 8 (mI σ o 10).toNatClampNeg (mI σ (mP σ o 3) 3)) fun σ17 =>
    gd (inb (mI σ17 o 10) 4) (
    stp (sA σ17 o 9 (mI σ17 o 10).toNatClampNeg x1) fun σ18 =>
    stp (sI σ18 o 10 ((mI σ18 o 10) + (1 : Int32))) fun σ19 =>
    some (mI σ19 o 10, σ19)))
  else
    some ((-3 : Int32), σ)
def fX5_brown (σ : Mem) (o : Nat) (x1 : Int32) : Option (Int32 × Mem) :=
  bd (fX1_hasClerk σ (mP σ o 1) x1) fun r21 =>
  if r21 = 0 then
    some ((-1 : Int32), σ)
  else
    bd (fX5_lengthOf (mI σ (mP σ o 3) 3)) fun r24 =>
    if r24 = 0 then
      some ((-2 : Int32), σ)
    else
      if mI σ o 10 ≤ 0 then
        fX5_brown_46 o σ x1
      else
        bd (fX5_brownLength σ o) fun r27 =>
        if r24 = r27 then
          fX5_brown_46 o σ x1
        else
          some ((-2 : Int32), σ)
def fX5_burn (σ : Mem) (o : Nat) : Option (Int32 × Mem) :=
  stp (sI σ o 10 (0 : Int32)) fun σ2 =>
  some (mI σ o 10, σ2)
def fX5_mayHaveStood_6  (σ : Mem) (o : Nat) : Nat → Int32 → Int32 → Int32 → Option Int32
  | 0, _, _, _ => none
  | n + 1, x1, x2, x3 =>
    if mI σ o 10 ≤ x3 then
      some x2
    else
      gd (inb x3 4) (
      bd (fX5_wordAt (mA σ o 8 x3.toNatClampNeg) x1) fun r7 =>
      gd (inb x3 4) (
      bd (fX1_copiedFrom σ (mP σ o 1) r7 (mA σ o 9 x3.toNatClampNeg)) fun r8 =>
      fX5_mayHaveStood_6 σ o n x1 (x2 &&& r8) (x3 + 1)))
def fX5_mayHaveStood (σ : Mem) (o : Nat) (x1 : Int32) : Option Int32 :=
  fX5_mayHaveStood_6 σ o FU x1 (1023 : Int32) (0 : Int32)
def fX5_stood (σ : Mem) (o : Nat) (x1 : Int32) : Option Int32 :=
  if x1 < 0 then
    some (-1 : Int32)
  else
    bd (fX5_brownLength σ o) fun r6 =>
    if x1 < r6 then
      bd (fX5_mayHaveStood σ o x1) fun r8 =>
      some r8
    else
      some (-1 : Int32)
def fJ6_numberOfTrailingZeros_0f7a4_62   (x0 : Int32) (x1 : Int32) : Option Int32 :=
  if x0 ≤ (4 : Int32) then
    some (x1 + ((x0.toUInt32 >>> ((1 : Int32).toUInt32 &&& Int32.toUInt32 31)).toInt32))
  else
    some ((x1 + 2) + ((((x0.toUInt32 >>> ((2 : Int32).toUInt32 &&& Int32.toUInt32 31)).toInt32).toUInt32 >>> ((1 : Int32).toUInt32 &&& Int32.toUInt32 31)).toInt32))
def fJ6_numberOfTrailingZeros_0f7a4_49   (x0 : Int32) (x1 : Int32) : Option Int32 :=
  if x0 ≤ (16 : Int32) then
    fJ6_numberOfTrailingZeros_0f7a4_62 x0 x1
  else
    fJ6_numberOfTrailingZeros_0f7a4_62 ((x0.toUInt32 >>> ((4 : Int32).toUInt32 &&& Int32.toUInt32 31)).toInt32) (x1 + 4)
def fJ6_numberOfTrailingZeros_0f7a4_34   (x0 : Int32) (x1 : Int32) : Option Int32 :=
  if x0 ≤ (256 : Int32) then
    fJ6_numberOfTrailingZeros_0f7a4_49 x0 x1
  else
    fJ6_numberOfTrailingZeros_0f7a4_49 ((x0.toUInt32 >>> ((8 : Int32).toUInt32 &&& Int32.toUInt32 31)).toInt32) (x1 + 8)
def fJ6_numberOfTrailingZeros_0f7a4 (x0 : Int32) : Option Int32 :=
  if 0 < (x0 ^^^ (-1 : Int32)) &&& (x0 - (1 : Int32)) then
    if (x0 ^^^ (-1 : Int32)) &&& (x0 - (1 : Int32)) ≤ (65536 : Int32) then
      fJ6_numberOfTrailingZeros_0f7a4_34 ((x0 ^^^ (-1 : Int32)) &&& (x0 - (1 : Int32))) (1 : Int32)
    else
      fJ6_numberOfTrailingZeros_0f7a4_34 ((((x0 ^^^ (-1 : Int32)) &&& (x0 - (1 : Int32))).toUInt32 >>> ((16 : Int32).toUInt32 &&& Int32.toUInt32 31)).toInt32) ((1 : Int32) + 16)
  else
    some (((x0 ^^^ (-1 : Int32)) &&& (x0 - (1 : Int32))) &&& (32 : Int32))
def fX5_possibleLetters_15  (σ : Mem) (o : Nat) : Nat → Int32 → Int32 → Option Int32
  | 0, _, _ => none
  | n + 1, x1, x2 =>
    bd (fX5_brownLength σ o) fun r6 =>
    if r6 ≤ x2 then
      some x1
    else
      bd (fX5_mayHaveStood σ o x2) fun r8 =>
      bd (fJ6_bitCount_0f7a4 r8) fun r9 =>
      fX5_possibleLetters_15 σ o n (x1 * r9) (x2 + 1)
def fX5_possibleLetters (σ : Mem) (o : Nat) : Option Int32 :=
  if mI σ o 10 = 0 then
    fX5_possibleLetters_15 σ o FU (0 : Int32) (0 : Int32)
  else
    fX5_possibleLetters_15 σ o FU (1 : Int32) (0 : Int32)
def fX5_letters (σ : Mem) (o : Nat) (x1 : Int32) : Option Int32 :=
  if x1 = (-9 : Int32) then
    bd (fX5_possibleLetters σ o) fun r22 =>
    some r22
  else
    if x1 < 0 then
      some (-1 : Int32)
    else
      bd (fX5_brownLength σ o) fun r14 =>
      if x1 < r14 then
        bd (fX5_possibleLetters σ o) fun r16 =>
        if r16 = 0 then
          some (-9 : Int32)
        else
          bd (fX5_mayHaveStood σ o x1) fun r18 =>
          bd (fJ6_bitCount_0f7a4 r18) fun r19 =>
          if r19 = (1 : Int32) then
            bd (fJ6_numberOfTrailingZeros_0f7a4 r18) fun r21 =>
            some r21
          else
            some (-5 : Int32)
      else
        some (-1 : Int32)
def fX5_isWholeLetter_48   (x1 : Int32) : Option Int32 :=
  if x1 = (1 : Int32) then
    some (1 : Int32)
  else
    some (0 : Int32)
def fX5_isWholeLetter_26   : Nat → Int32 → Int32 → Option Int32
  | 0, _, _ => none
  | n + 1, x1, x2 =>
    if (5 : Int32) ≤ x2 then
      fX5_isWholeLetter_48 x1
    else
      if x1 < (11 : Int32) then
        fX5_isWholeLetter_48 x1
      else
        fX5_isWholeLetter_26 n (x1 / (11 : Int32)) (x2 + 1)
def fX5_isWholeLetter (x0 : Int32) : Option Int32 :=
  if x0 < (11 : Int32) then
    some (0 : Int32)
  else
    if (322101 : Int32) < x0 then
      some (0 : Int32)
    else
      bd (fX5_lostIn x0) fun r13 =>
      if r13 = 0 then
        fX5_isWholeLetter_26 FU x0 (0 : Int32)
      else
        some (0 : Int32)
def fX5_whose_13  (σ : Mem) (o : Nat) : Nat → Int32 → Int32 → Int32 → Option Int32
  | 0, _, _, _ => none
  | n + 1, x1, x2, x3 =>
    if mI σ (mP σ o 1) 4 ≤ x3 then
      some x2
    else
      bd (fX1_smoked σ (mP σ o 1) x1 x3) fun r12 =>
      if r12 = mI σ (mP σ o 3) 3 then
        fX5_whose_13 σ o n x1 (x2 ||| ((1 : Int32) <<< (x3 &&& 31))) (x3 + 1)
      else
        fX5_whose_13 σ o n x1 x2 (x3 + 1)
def fX5_whose (σ : Mem) (o : Nat) (x1 : Int32) : Option Int32 :=
  bd (fX5_isWholeLetter x1) fun r15 =>
  if r15 = 0 then
    some (-1 : Int32)
  else
    fX5_whose_13 σ o FU x1 (0 : Int32) (0 : Int32)
def fX5_standsAhead_2  (σ : Mem) : Nat → Nat → Nat → Nat → Int32 → Int32 → Int32 → Option Int32
  | 0, _, _, _, _, _, _ => none
  | n + 1, a0, b0, n0, x1, x2, x3 =>
    if x1 ≤ x3 then
      some (0 : Int32)
    else
      if Int32.ofNat n0 ≤ x3 then
        some (0 : Int32)
      else
        gd (inb x3 n0) (
        if mA σ a0 b0 x3.toNatClampNeg = x2 then
          some (1 : Int32)
        else
          fX5_standsAhead_2 σ n a0 b0 n0 x1 x2 (x3 + 1))
def fX5_standsAhead (σ : Mem) (a0 b0 n0 : Nat) (x1 : Int32) (x2 : Int32) : Option Int32 :=
  fX5_standsAhead_2 σ FU a0 b0 n0 x1 x2 (0 : Int32)
def fX5_canMake_28  (fr_ : Mem → Nat → Nat → Nat → Nat → Int32 → Int32 → Int32 → Int32 → Option (Int32 × Mem)) : Nat → Mem → Nat → Nat → Nat → Nat → Int32 → Int32 → Int32 → Int32 → Int32 → Option (Int32 × Mem)
  | 0, _, _, _, _, _, _, _, _, _, _ => none
  | n + 1, σ, q0, a1, b1, n1, x2, x3, x4, x5, x6 =>
    if mI σ q0 4 ≤ x6 then
      some ((0 : Int32), σ)
    else
      bd (fX5_standsAhead σ a1 b1 n1 x4 x6) fun r13 =>
      if r13 = 0 then
        gd (inb x4 n1) (
        stp (sA σ a1 b1 x4.toNatClampNeg x6) fun σ15 =>
        bd (fX1_smoked σ15 q0 x2 x6) fun r16 =>
        bd2 (fr_ σ15 q0 a1 b1 n1 r16 x3 (x4 + (1 : Int32)) x5) fun r17 σ18 =>
        if r17 = 0 then
          fX5_canMake_28 fr_ n σ18 q0 a1 b1 n1 x2 x3 x4 x5 (x6 + 1)
        else
          some ((1 : Int32), σ18))
      else
        fX5_canMake_28 fr_ n σ q0 a1 b1 n1 x2 x3 x4 x5 (x6 + 1)
def fX5_canMake_14  (fr_ : Mem → Nat → Nat → Nat → Nat → Int32 → Int32 → Int32 → Int32 → Option (Int32 × Mem)) (σ : Mem) (x2 : Int32) (x3 : Int32) : Option (Int32 × Mem) :=
  if x2 = x3 then
    some ((1 : Int32), σ)
  else
    some ((0 : Int32), σ)
def fX5_canMake_B (fr_ : Mem → Nat → Nat → Nat → Nat → Int32 → Int32 → Int32 → Int32 → Option (Int32 × Mem)) (σ : Mem) (q0 : Nat) (a1 b1 n1 : Nat) (x2 : Int32) (x3 : Int32) (x4 : Int32) (x5 : Int32) : Option (Int32 × Mem) :=
  if x5 ≤ x4 then
    fX5_canMake_14 fr_ σ x2 x3
  else
    if x4 < Int32.ofNat n1 then
      fX5_canMake_28 fr_ FU σ q0 a1 b1 n1 x2 x3 x4 x5 (0 : Int32)
    else
      fX5_canMake_14 fr_ σ x2 x3
def fX5_canMake : Nat → Mem → Nat → Nat → Nat → Nat → Int32 → Int32 → Int32 → Int32 → Option (Int32 × Mem)
  | 0, _, _, _, _, _, _, _, _, _ => none
  | n + 1, σ, q0, a1, b1, n1, x2, x3, x4, x5 => fX5_canMake_B (fX5_canMake n) σ q0 a1 b1 n1 x2 x3 x4 x5
def fX5_fewestClerks_2  (o : Nat) : Nat → Mem → Int32 → Int32 → Option (Int32 × Mem)
  | 0, _, _, _ => none
  | n + 1, σ, x1, x2 =>
    if mI σ (mP σ o 1) 4 < x2 then
      some ((-9 : Int32), σ)
    else
      bd2 (fX5_canMake 10 σ (mP σ o 1) o 11 4 x1 (mI σ (mP σ o 3) 3) (0 : Int32) x2) fun r12 σ13 =>
      if r12 = 0 then
        fX5_fewestClerks_2 o n σ13 x1 (x2 + 1)
      else
        some (x2, σ13)
def fX5_fewestClerks (σ : Mem) (o : Nat) (x1 : Int32) : Option (Int32 × Mem) :=
  fX5_fewestClerks_2 o FU σ x1 (0 : Int32)
def fX5_chain (σ : Mem) (o : Nat) (x1 : Int32) (x2 : Int32) : Option (Int32 × Mem) :=
  bd (fX5_isWholeLetter x1) fun r10 =>
  if r10 = 0 then
    some ((-1 : Int32), σ)
  else
    if (-1 : Int32) ≤ x2 then
      bd2 (fX5_fewestClerks σ o x1) fun r13 σ14 =>
      if r13 = (-9 : Int32) then
        some (r13, σ14)
      else
        if x2 = (-1 : Int32) then
          some (r13, σ14)
        else
          if r13 ≤ x2 then
            some ((-5 : Int32), σ14)
          else
            if (4 : Int32) ≤ x2 then
              some ((-5 : Int32), σ14)
            else
              gd (inb x2 4) (
              some (mA σ14 o 11 x2.toNatClampNeg, σ14))
    else
      some ((-1 : Int32), σ)
def fX5_asClerk (σ : Mem) (o : Nat) (x1 : Int32) : Option (Int32 × Mem) :=
  stp (sL σ o 13 ((mL σ o 13) + (1 : Int64))) fun σ4 =>
  gd (inb x1 4) (
  bd (fJ6_bitCount_0f7a4 (mA σ4 (mP σ4 o 1) 8 x1.toNatClampNeg)) fun r6 =>
  some (r6, σ4))
def fX5_asNun (σ : Mem) (o : Nat) (x1 : Int32) : Option (Int32 × Mem) :=
  stp (sL σ o 13 ((mL σ o 13) + (10 : Int64))) fun σ5 =>
  bd2 (fX5_asClerk σ5 o x1) fun r6 σ7 =>
  gd (inb x1 4) (
  some (r6 + (mA σ7 (mP σ7 o 1) 9 x1.toNatClampNeg), σ7))
def fX5_asAbbess (σ : Mem) (o : Nat) (x1 : Int32) : Option (Int32 × Mem) :=
  stp (sL σ o 13 ((mL σ o 13) + (1000 : Int64))) fun σ4 =>
  bd2 (fX5_asNun σ4 o x1) fun r5 σ6 =>
  some ((2 : Int32) * r5, σ6)
def fX5_asNephew (σ : Mem) (o : Nat) (x1 : Int32) : Option (Int32 × Mem) :=
  stp (sL σ o 13 ((mL σ o 13) + (100 : Int64))) fun σ5 =>
  bd2 (fX5_asClerk σ5 o x1) fun r6 σ7 =>
  gd (inb x1 4) (
  some (r6 - (mA σ7 (mP σ7 o 1) 10 x1.toNatClampNeg), σ7))
def fX5_asForger (σ : Mem) (o : Nat) (x1 : Int32) : Option (Int32 × Mem) :=
  stp (sL σ o 13 ((mL σ o 13) + (10000 : Int64))) fun σ4 =>
  bd2 (fX5_asNephew σ4 o x1) fun r5 σ6 =>
  some (r5 + x1, σ6)
def fX5_asGull (σ : Mem) (o : Nat) (x1 : Int32) : Option (Int32 × Mem) :=
  stp (sL σ o 13 ((mL σ o 13) + (100000 : Int64))) fun σ6 =>
  bd2 (fX5_asClerk σ6 o x1) fun r7 σ8 =>
  bd (fJ6_bitCount_0f7a4 (mI σ8 (mP σ8 o 3) 2)) fun r10 =>
  some (r7 + r10, σ8)
def fX5_rate (σ : Mem) (o : Nat) (x1 : Int32) (x2 : Int32) : Option (Int32 × Mem) :=
  bd (fX1_hasClerk σ (mP σ o 1) x2) fun r23 =>
  if r23 = 0 then
    some ((-1000000 : Int32), σ)
  else
    if x1 = (0 : Int32) then
      bd2 (fX5_asClerk σ o x2) fun r26 σ27 =>
      some (r26, σ27)
    else
      if x1 = (1 : Int32) then
        bd2 (fX5_asNun σ o x2) fun r29 σ30 =>
        some (r29, σ30)
      else
        if x1 = (2 : Int32) then
          bd2 (fX5_asNephew σ o x2) fun r32 σ33 =>
          some (r32, σ33)
        else
          if x1 = (3 : Int32) then
            bd2 (fX5_asAbbess σ o x2) fun r35 σ36 =>
            some (r35, σ36)
          else
            if x1 = (4 : Int32) then
              bd2 (fX5_asForger σ o x2) fun r38 σ39 =>
              some (r38, σ39)
            else
              if x1 = (5 : Int32) then
                bd2 (fX5_asGull σ o x2) fun r41 σ42 =>
                some (r41, σ42)
              else
                some ((-1000000 : Int32), σ)
def fX5_keep (σ : Mem) (o : Nat) (x1 : Int32) : Option (Int32 × Mem) :=
  if x1 < 0 then
    some ((-1 : Int32), σ)
  else
    if x1 < (2 : Int32) then
      gd (inb x1 2) (
      bd (fX2_becomeAs σ (mE σ o 5 x1.toNatClampNeg) (mP σ o 3)) fun σ12 =>
      stp (sI σ12 o 6 ((mI σ12 o 6) ||| ((1 : Int32) <<< (x1 &&& 31)))) fun σ13 =>
      some (mI σ13 (mP σ13 o 3) 0, σ13))
    else
      some ((-1 : Int32), σ)
def fX5_back (σ : Mem) (o : Nat) (x1 : Int32) : Option (Int32 × Mem) :=
  if x1 < 0 then
    some ((-1 : Int32), σ)
  else
    if x1 < (2 : Int32) then
      if ((mI σ o 6) >>> (x1 &&& 31)) &&& (1 : Int32) = 0 then
        some ((-2 : Int32), σ)
      else
        gd (inb x1 2) (
        bd (fX2_becomeAs σ (mP σ o 3) (mE σ o 5 x1.toNatClampNeg)) fun σ15 =>
        stp (sI σ15 (mP σ15 o 4) 0 (0 : Int32)) fun σ17 =>
        some (mI σ17 (mP σ17 o 3) 0, σ17))
    else
      some ((-1 : Int32), σ)
def fX5_count (σ : Mem) (o : Nat) (x1 : Int32) : Option Int32 :=
  if x1 = (0 : Int32) then
    some (mI σ (mP σ o 1) 0)
  else
    if x1 = (1 : Int32) then
      some (mI σ (mP σ o 1) 1)
    else
      if x1 = (2 : Int32) then
        some (mI σ (mP σ o 1) 2)
      else
        if x1 = (3 : Int32) then
          some (mI σ (mP σ o 1) 3)
        else
          if x1 = (4 : Int32) then
            some (mI σ (mP σ o 1) 4)
          else
            if x1 = (5 : Int32) then
              bd (fX5_lengthOf (mI σ (mP σ o 3) 3)) fun r29 =>
              some r29
            else
              if x1 = (6 : Int32) then
                some (mI σ o 10)
              else
                if x1 = (7 : Int32) then
                  some (mI σ (mP σ o 0) 0)
                else
                  some (-1 : Int32)
def fX5_trace (σ : Mem) (o : Nat) : Option Int64 :=
  some (mL σ o 13)
def fX6_in (x0 : Int32) (x1 : Int32) (x2 : Int32) : Option Int32 :=
  if x0 < x1 then
    some (0 : Int32)
  else
    if x2 < x0 then
      some (0 : Int32)
    else
      some (1 : Int32)
def fX6_has (x0 : Int32) (x1 : Int32) : Option Int32 :=
  if (x0 >>> (x1 &&& 31)) &&& (1 : Int32) = (1 : Int32) then
    some (1 : Int32)
  else
    some (0 : Int32)
def fX6_bits_4   : Nat → Int32 → Int32 → Option Int32
  | 0, _, _ => none
  | n + 1, x1, x2 =>
    if x2 ≤ 0 then
      some x1
    else
      fX6_bits_4 n (x1 + 1) (x2 &&& (x2 - (1 : Int32)))
def fX6_bits (x0 : Int32) : Option Int32 :=
  fX6_bits_4 FU (0 : Int32) x0
def fX6_isTraveller (σ : Mem) (o : Nat) (x1 : Int32) : Option Int32 :=
  bd (fX6_in x1 (0 : Int32) ((mI σ o 3) - (1 : Int32))) fun r2 =>
  gd (zb r2) (
  some r2)
def fX6_isRow (σ : Mem) (o : Nat) (x1 : Int32) : Option Int32 :=
  bd (fX6_in x1 (0 : Int32) ((mI σ o 1) - (1 : Int32))) fun r2 =>
  gd (zb r2) (
  some r2)
def fX6_isClerk (σ : Mem) (o : Nat) (x1 : Int32) : Option Int32 :=
  bd (fX6_in x1 (0 : Int32) ((mI σ o 5) - (1 : Int32))) fun r2 =>
  gd (zb r2) (
  some r2)
def fX6_type (σ : Mem) (o : Nat) (x1 : Int32) : Option (Int32 × Mem) :=
  bd (fX6_in x1 (0 : Int32) (255 : Int32)) fun r6 =>
  if r6 = 0 then
    some ((-1 : Int32), σ)
  else
    if mI σ o 18 = (200 : Int32) then
      some ((-3 : Int32), σ)
    else
      gd (inb (mI σ o 18) 200) (
      stp (sA σ o 17 (mI σ o 18).toNatClampNeg x1) fun σ9 =>
      stp (sI σ9 o 18 ((mI σ9 o 18) + (1 : Int32))) fun σ10 =>
      some (mI σ10 o 18, σ10))
def fX6_clear (σ : Mem) (o : Nat) : Option (Int32 × Mem) :=
  stp (sI σ o 18 (0 : Int32)) fun σ2 =>
  some (mI σ o 18, σ2)
def fX6_letterAt (σ : Mem) (o : Nat) (x1 : Int32) : Option Int32 :=
  if mI σ o 18 ≤ x1 then
    some (-1 : Int32)
  else
    gd (inb x1 200) (
    some (mA σ o 17 x1.toNatClampNeg))
def fX6_next_257  (o : Nat) (σ : Mem) (xs0 : Int32) : Option Mem :=
  if xs0 = 0 then
    stp (sI σ o 21 (4 : Int32)) fun σ37 =>
    some σ37
  else
    stp (sI σ o 21 (2 : Int32)) fun σ38 =>
    some σ38
def fX6_next_136  (o : Nat) : Nat → Mem → Int32 → Option Mem
  | 0, _, _ => none
  | n + 1, σ, x1 =>
    bd (fX6_letterAt σ o (mI σ o 19)) fun r39 =>
    bd (fX6_in r39 (48 : Int32) (57 : Int32)) fun r40 =>
    if r40 = 0 then
      if (5 : Int32) ≤ (mI σ o 19) - (mI σ o 20) then
        fX6_next_257 o σ (0 : Int32)
      else
        if (1024 : Int32) ≤ mI σ o 22 then
          fX6_next_257 o σ (0 : Int32)
        else
          if x1 = (48 : Int32) then
            if (mI σ o 19) - (mI σ o 20) = (1 : Int32) then
              fX6_next_257 o σ (1 : Int32)
            else
              fX6_next_257 o σ (0 : Int32)
          else
            fX6_next_257 o σ (1 : Int32)
    else
      if (4 : Int32) ≤ (mI σ o 19) - (mI σ o 20) then
        stp (sI σ o 22 (mI σ o 22)) fun σ47 =>
        stp (sI σ47 o 19 ((mI σ47 o 19) + (1 : Int32))) fun σ48 =>
        fX6_next_136 o n σ48 x1
      else
        bd (fX6_letterAt σ o (mI σ o 19)) fun r49 =>
        stp (sI σ o 22 ((((10 : Int32) * (mI σ o 22)) + r49) - (48 : Int32))) fun σ50 =>
        stp (sI σ50 o 19 ((mI σ50 o 19) + (1 : Int32))) fun σ51 =>
        fX6_next_136 o n σ51 x1
def fX6_next_114  (o : Nat) (σ : Mem) (x1 : Int32) (xs0 : Int32) : Option Mem :=
  stp (sI σ o 21 xs0) fun σ52 =>
  bd (fX6_in x1 (48 : Int32) (57 : Int32)) fun r53 =>
  if r53 = 0 then
    some σ52
  else
    stp (sI σ52 o 22 (x1 - (48 : Int32))) fun σ55 =>
    fX6_next_136 o FU σ55 x1
def fX6_next_0  (o : Nat) : Nat → Mem → Option Mem
  | 0, _ => none
  | n + 1, σ =>
    bd (fX6_letterAt σ o (mI σ o 19)) fun r56 =>
    if r56 = (32 : Int32) then
      stp (sI σ o 19 ((mI σ o 19) + (1 : Int32))) fun σ70 =>
      fX6_next_0 o n σ70
    else
      stp (sI σ o 20 (mI σ o 19)) fun σ58 =>
      bd (fX6_letterAt σ58 o (mI σ58 o 19)) fun r59 =>
      if 0 ≤ r59 then
        stp (sI σ58 o 19 ((mI σ58 o 19) + (1 : Int32))) fun σ61 =>
        stp (sI σ61 o 22 r59) fun σ62 =>
        if r59 = (113 : Int32) then
          fX6_next_114 o σ62 r59 (1 : Int32)
        else
          if r59 = (114 : Int32) then
            fX6_next_114 o σ62 r59 (1 : Int32)
          else
            if r59 = (98 : Int32) then
              fX6_next_114 o σ62 r59 (1 : Int32)
            else
              if r59 = (116 : Int32) then
                fX6_next_114 o σ62 r59 (1 : Int32)
              else
                if r59 = (107 : Int32) then
                  fX6_next_114 o σ62 r59 (1 : Int32)
                else
                  if r59 = (59 : Int32) then
                    fX6_next_114 o σ62 r59 (3 : Int32)
                  else
                    fX6_next_114 o σ62 r59 (4 : Int32)
      else
        stp (sI σ58 o 21 (0 : Int32)) fun σ69 =>
        some σ69
def fX6_next (σ : Mem) (o : Nat) : Option Mem :=
  fX6_next_0 o FU σ
def fX6_must_17  (o : Nat) (σ : Mem) (xs0 : Int32) : Option Mem :=
  gd (zb xs0) (
  stp (sI σ o 23 xs0) fun σ6 =>
  if mI σ6 o 23 = 0 then
    bd (fX6_next σ6 o) fun σ8 =>
    some σ8
  else
    some σ6)
def fX6_must (σ : Mem) (o : Nat) (x1 : Int32) : Option Mem :=
  if mI σ o 23 = 0 then
    if x1 = 0 then
      fX6_must_17 o σ (1 : Int32)
    else
      fX6_must_17 o σ (0 : Int32)
  else
    fX6_must_17 o σ (1 : Int32)
def fX6_readInto_31  (o : Nat) (σ : Mem) (a1 : Nat) (b1 : Nat) (n1 : Nat) (x2 : Int32) (x5 : Int32) (xs0 : Int32) : Option (Int32 × Mem) :=
  bd (fX6_must σ o xs0) fun σ7 =>
  if mI σ7 o 23 = 0 then
    gd (inb x2 n1) (
    stp (sA σ7 a1 b1 x2.toNatClampNeg x5) fun σ9 =>
    some (x5, σ9))
  else
    some (x5, σ7)
def fX6_readInto (σ : Mem) (o : Nat) (a1 b1 n1 : Nat) (x2 : Int32) (x3 : Int32) (x4 : Int32) : Option (Int32 × Mem) :=
  if mI σ o 21 = (2 : Int32) then
    bd (fX6_in (mI σ o 22) x3 x4) fun r11 =>
    if r11 = 0 then
      fX6_readInto_31 o σ a1 b1 n1 x2 (mI σ o 22) (0 : Int32)
    else
      fX6_readInto_31 o σ a1 b1 n1 x2 (mI σ o 22) (1 : Int32)
  else
    fX6_readInto_31 o σ a1 b1 n1 x2 (mI σ o 22) (0 : Int32)
def fX6_readOne_54  (o : Nat) (σ : Mem) (x1 : Int32) (xs0 : Int32) : Option Mem :=
  bd (fX6_must σ o xs0) fun σ10 =>
  stp (sI σ10 o 29 ((mI σ10 o 29) ||| ((1 : Int32) <<< (x1 &&& 31)))) fun σ11 =>
  some σ11
def fX6_readOne_17  (o : Nat) (σ : Mem) (x1 : Int32) (x2 : Int32) (xs0 : Int32) : Option Mem :=
  bd (fX6_must σ o xs0) fun σ12 =>
  if mI σ12 o 23 = 0 then
    bd2 (fX6_readInto σ12 o o 28 3 x1 (1 : Int32) x2) fun r14 σ15 =>
    if mI σ15 o 21 = (3 : Int32) then
      fX6_readOne_54 o σ15 x1 (1 : Int32)
    else
      fX6_readOne_54 o σ15 x1 (0 : Int32)
  else
    some σ12
def fX6_readOne (σ : Mem) (o : Nat) (x1 : Int32) (x2 : Int32) : Option Mem :=
  bd (fX6_has (mI σ o 29) x1) fun r17 =>
  if r17 = 0 then
    fX6_readOne_17 o σ x1 x2 (1 : Int32)
  else
    fX6_readOne_17 o σ x1 x2 (0 : Int32)
def fX6_readTraveller_78  (o : Nat) (σ : Mem) (xs0 : Int32) : Option Mem :=
  bd (fX6_must σ o xs0) fun σ11 =>
  stp (sI σ11 o 24 ((mI σ11 o 24) + (1 : Int32))) fun σ12 =>
  some σ12
def fX6_readTraveller_15  (o : Nat) (σ : Mem) (xs0 : Int32) : Option Mem :=
  bd (fX6_must σ o xs0) fun σ13 =>
  if mI σ13 o 23 = 0 then
    bd2 (fX6_readInto σ13 o o 25 12 ((2 : Int32) * (mI σ13 o 24)) (0 : Int32) (40 : Int32)) fun r15 σ16 =>
    bd2 (fX6_readInto σ16 o o 25 12 (((2 : Int32) * (mI σ16 o 24)) + (1 : Int32)) (0 : Int32) (10 : Int32)) fun r17 σ18 =>
    if mI σ18 o 21 = (3 : Int32) then
      fX6_readTraveller_78 o σ18 (1 : Int32)
    else
      fX6_readTraveller_78 o σ18 (0 : Int32)
  else
    some σ13
def fX6_readTraveller (σ : Mem) (o : Nat) : Option Mem :=
  if (6 : Int32) ≤ mI σ o 24 then
    fX6_readTraveller_15 o σ (0 : Int32)
  else
    fX6_readTraveller_15 o σ (1 : Int32)
def fX6_readClerk_132  (o : Nat) (σ : Mem) (xs0 : Int32) : Option Mem :=
  bd (fX6_must σ o xs0) fun σ18 =>
  stp (sI σ18 o 26 ((mI σ18 o 26) + (1 : Int32))) fun σ19 =>
  some σ19
def fX6_readClerk_106  (o : Nat) (σ : Mem) (x1 : Int32) (x3 : Int32) (xs0 : Int32) : Option Mem :=
  bd (fX6_must σ o xs0) fun σ20 =>
  gd (inb (x1 + (2 : Int32)) 12) (
  stp (sA σ20 o 27 (x1 + (2 : Int32)).toNatClampNeg x3) fun σ21 =>
  if mI σ21 o 21 = (3 : Int32) then
    fX6_readClerk_132 o σ21 (1 : Int32)
  else
    fX6_readClerk_132 o σ21 (0 : Int32))
def fX6_readClerk_14  (o : Nat) (σ : Mem) (xs0 : Int32) : Option Mem :=
  bd (fX6_must σ o xs0) fun σ23 =>
  if mI σ23 o 23 = 0 then
    bd2 (fX6_readInto σ23 o o 27 12 ((3 : Int32) * (mI σ23 o 26)) (0 : Int32) (1023 : Int32)) fun r25 σ26 =>
    bd2 (fX6_readInto σ26 o o 27 12 (((3 : Int32) * (mI σ23 o 26)) + (1 : Int32)) (0 : Int32) (10 : Int32)) fun r27 σ28 =>
    if mI σ28 o 21 = (2 : Int32) then
      if r27 = (10 : Int32) then
        if mI σ28 o 22 = (10 : Int32) then
          fX6_readClerk_106 o σ28 ((3 : Int32) * (mI σ23 o 26)) (mI σ28 o 22) (1 : Int32)
        else
          fX6_readClerk_106 o σ28 ((3 : Int32) * (mI σ23 o 26)) (mI σ28 o 22) (0 : Int32)
      else
        if (10 : Int32) ≤ mI σ28 o 22 then
          fX6_readClerk_106 o σ28 ((3 : Int32) * (mI σ23 o 26)) (mI σ28 o 22) (0 : Int32)
        else
          if mI σ28 o 22 = r27 then
            fX6_readClerk_106 o σ28 ((3 : Int32) * (mI σ23 o 26)) (mI σ28 o 22) (0 : Int32)
          else
            fX6_readClerk_106 o σ28 ((3 : Int32) * (mI σ23 o 26)) (mI σ28 o 22) (1 : Int32)
    else
      fX6_readClerk_106 o σ28 ((3 : Int32) * (mI σ23 o 26)) (mI σ28 o 22) (0 : Int32)
  else
    some σ23
def fX6_readClerk (σ : Mem) (o : Nat) : Option Mem :=
  if (4 : Int32) ≤ mI σ o 26 then
    fX6_readClerk_14 o σ (0 : Int32)
  else
    fX6_readClerk_14 o σ (1 : Int32)
def fX6_readItem_16  (o : Nat) (σ : Mem) (xs0 : Int32) : Option Mem :=
  if xs0 = (113 : Int32) then
    bd (fX6_readOne σ o (0 : Int32) (40 : Int32)) fun σ23 =>
    some σ23
  else
    if xs0 = (114 : Int32) then
      bd (fX6_readOne σ o (1 : Int32) (3 : Int32)) fun σ22 =>
      some σ22
    else
      if xs0 = (98 : Int32) then
        bd (fX6_readOne σ o (2 : Int32) (9 : Int32)) fun σ21 =>
        some σ21
      else
        if xs0 = (116 : Int32) then
          bd (fX6_readTraveller σ o) fun σ20 =>
          some σ20
        else
          if xs0 = (107 : Int32) then
            bd (fX6_readClerk σ o) fun σ19 =>
            some σ19
          else
            stp (sI σ o 23 (1 : Int32)) fun σ18 =>
            some σ18
def fX6_readItem (σ : Mem) (o : Nat) : Option Mem :=
  if mI σ o 21 = (1 : Int32) then
    fX6_readItem_16 o σ (mI σ o 22)
  else
    fX6_readItem_16 o σ (0 : Int32)
def fX6_island_178  (o : Nat) : Nat → Mem → Int32 → Int32 → Option (Int32 × Mem)
  | 0, _, _, _ => none
  | n + 1, σ, x1, x2 =>
    if (26 : Int32) ≤ x2 then
      stp (sI σ o 9 (0 : Int32)) fun σ33 =>
      stp (sI σ33 o 12 (0 : Int32)) fun σ34 =>
      gd (inb (0 : Int32) 2) (
      stp (sA σ34 o 11 (0 : Int32).toNatClampNeg (0 : Int32)) fun σ35 =>
      gd (inb (1 : Int32) 2) (
      stp (sA σ35 o 11 (1 : Int32).toNatClampNeg (0 : Int32)) fun σ36 =>
      stp (sI σ36 o 18 (0 : Int32)) fun σ37 =>
      some (x1, σ37)))
    else
      bd (fX6_in x2 (2 : Int32) (7 : Int32)) fun r38 =>
      if r38 = 0 then
        gd (inb x2 26) (
        stp (sA σ o 7 x2.toNatClampNeg (0 : Int32)) fun σ40 =>
        fX6_island_178 o n σ40 x1 (x2 + 1))
      else
        gd (inb x2 26) (
        stp (sA σ o 7 x2.toNatClampNeg (-9 : Int32)) fun σ41 =>
        fX6_island_178 o n σ41 x1 (x2 + 1))
def fX6_island_140  (o : Nat) : Nat → Mem → Int32 → Int32 → Option (Int32 × Mem)
  | 0, _, _, _ => none
  | n + 1, σ, x1, x2 =>
    if (12 : Int32) ≤ x2 then
      fX6_island_178 o FU σ x1 (0 : Int32)
    else
      gd (inb x2 12) (
      gd (inb x2 12) (
      stp (sA σ o 4 x2.toNatClampNeg (mA σ o 25 x2.toNatClampNeg)) fun σ43 =>
      gd (inb x2 12) (
      gd (inb x2 12) (
      stp (sA σ43 o 6 x2.toNatClampNeg (mA σ43 o 27 x2.toNatClampNeg)) fun σ44 =>
      fX6_island_140 o n σ44 x1 (x2 + 1)))))
def fX6_island_77  (o : Nat) (σ : Mem) (x1 : Int32) : Option (Int32 × Mem) :=
  if mI σ o 23 = 0 then
    gd (inb (0 : Int32) 3) (
    stp (sI σ o 0 (mA σ o 28 (0 : Int32).toNatClampNeg)) fun σ46 =>
    gd (inb (1 : Int32) 3) (
    stp (sI σ46 o 1 (mA σ46 o 28 (1 : Int32).toNatClampNeg)) fun σ47 =>
    gd (inb (2 : Int32) 3) (
    stp (sI σ47 o 2 (mA σ47 o 28 (2 : Int32).toNatClampNeg)) fun σ48 =>
    stp (sI σ48 o 3 (mI σ48 o 24)) fun σ49 =>
    stp (sI σ49 o 5 (mI σ49 o 26)) fun σ50 =>
    fX6_island_140 o FU σ50 x1 (0 : Int32))))
  else
    some ((-10 : Int32) - (mI σ o 20), σ)
def fX6_island_53  (o : Nat) : Nat → Mem → Int32 → Option (Int32 × Mem)
  | 0, _, _ => none
  | n + 1, σ, x1 =>
    if mI σ o 21 = 0 then
      fX6_island_77 o σ x1
    else
      if mI σ o 23 = 0 then
        bd (fX6_readItem σ o) fun σ53 =>
        fX6_island_53 o n σ53 (x1 + 1)
      else
        fX6_island_77 o σ x1
def fX6_island (σ : Mem) (o : Nat) : Option (Int32 × Mem) :=
  stp (sI σ o 19 (0 : Int32)) fun σ54 =>
  stp (sI σ54 o 23 (0 : Int32)) fun σ55 =>
  gd (inb (0 : Int32) 3) (
  stp (sA σ55 o 28 (0 : Int32).toNatClampNeg (10 : Int32)) fun σ56 =>
  gd (inb (1 : Int32) 3) (
  stp (sA σ56 o 28 (1 : Int32).toNatClampNeg (2 : Int32)) fun σ57 =>
  gd (inb (2 : Int32) 3) (
  stp (sA σ57 o 28 (2 : Int32).toNatClampNeg (1 : Int32)) fun σ58 =>
  stp (sI σ58 o 29 (0 : Int32)) fun σ59 =>
  stp (sI σ59 o 24 (0 : Int32)) fun σ60 =>
  stp (sI σ60 o 26 (0 : Int32)) fun σ61 =>
  bd (fX6_next σ61 o) fun σ62 =>
  fX6_island_53 o FU σ62 (0 : Int32))))
def fX6_mayLeave (σ : Mem) (o : Nat) (x1 : Int32) : Option Int32 :=
  gd (inb ((2 : Int32) + x1) 26) (
  if mA σ o 7 ((2 : Int32) + x1).toNatClampNeg = (-9 : Int32) then
    some (0 : Int32)
  else
    gd (inb ((8 : Int32) + x1) 26) (
    if mA σ o 7 ((8 : Int32) + x1).toNatClampNeg < mI σ o 0 then
      some (0 : Int32)
    else
      some (1 : Int32)))
def fX6_sailsOn (σ : Mem) (o : Nat) (x1 : Int32) : Option Int32 :=
  gd (decide (¬ (mI σ o 2) = 0)) (
  if x1 - x1 / (mI σ o 2) * (mI σ o 2) = 0 then
    some (1 : Int32)
  else
    some (0 : Int32))
def fX6_traveller (σ : Mem) (o : Nat) (x1 : Int32) (x2 : Int32) : Option Int32 :=
  bd (fX6_isTraveller σ o x1) fun r8 =>
  if r8 = 0 then
    some (-1 : Int32)
  else
    bd (fX6_in x2 (0 : Int32) (4 : Int32)) fun r10 =>
    if r10 = 0 then
      some (-1 : Int32)
    else
      if (2 : Int32) ≤ x2 then
        if x2 = (2 : Int32) then
          gd (inb ((2 : Int32) + x1) 26) (
          some (mA σ o 7 ((2 : Int32) + x1).toNatClampNeg))
        else
          if x2 = (3 : Int32) then
            gd (inb ((8 : Int32) + x1) 26) (
            some (mA σ o 7 ((8 : Int32) + x1).toNatClampNeg))
          else
            gd (inb ((14 : Int32) + x1) 26) (
            some (mA σ o 7 ((14 : Int32) + x1).toNatClampNeg))
      else
        gd (inb (((2 : Int32) * x1) + x2) 12) (
        some (mA σ o 4 (((2 : Int32) * x1) + x2).toNatClampNeg))
def fX6_clerk (σ : Mem) (o : Nat) (x1 : Int32) (x2 : Int32) : Option Int32 :=
  bd (fX6_isClerk σ o x1) fun r5 =>
  if r5 = 0 then
    some (-1 : Int32)
  else
    bd (fX6_in x2 (0 : Int32) (2 : Int32)) fun r7 =>
    if r7 = 0 then
      some (-1 : Int32)
    else
      gd (inb (((3 : Int32) * x1) + x2) 12) (
      some (mA σ o 6 (((3 : Int32) * x1) + x2).toNatClampNeg))
def fX6_leavers_4  (σ : Mem) (o : Nat) : Nat → Int32 → Int32 → Option Int32
  | 0, _, _ => none
  | n + 1, x1, x2 =>
    if mI σ o 3 ≤ x2 then
      some x1
    else
      bd (fX6_mayLeave σ o x2) fun r5 =>
      if r5 = 0 then
        fX6_leavers_4 σ o n (x1 ||| (0 : Int32)) (x2 + 1)
      else
        fX6_leavers_4 σ o n (x1 ||| ((1 : Int32) <<< (x2 &&& 31))) (x2 + 1)
def fX6_leavers (σ : Mem) (o : Nat) : Option Int32 :=
  fX6_leavers_4 σ o FU (0 : Int32) (0 : Int32)
def fX6_goneSet_4  (σ : Mem) (o : Nat) : Nat → Int32 → Int32 → Option Int32
  | 0, _, _ => none
  | n + 1, x1, x2 =>
    if mI σ o 3 ≤ x2 then
      some x1
    else
      gd (inb ((14 : Int32) + x2) 26) (
      fX6_goneSet_4 σ o n (x1 ||| ((mA σ o 7 ((14 : Int32) + x2).toNatClampNeg) <<< (x2 &&& 31))) (x2 + 1))
def fX6_goneSet (σ : Mem) (o : Nat) : Option Int32 :=
  fX6_goneSet_4 σ o FU (0 : Int32) (0 : Int32)
def fX6_now (σ : Mem) (o : Nat) (x1 : Int32) : Option Int32 :=
  if x1 = (0 : Int32) then
    gd (inb (0 : Int32) 26) (
    some (mA σ o 7 (0 : Int32).toNatClampNeg))
  else
    if x1 = (1 : Int32) then
      gd (inb (1 : Int32) 26) (
      some (mA σ o 7 (1 : Int32).toNatClampNeg))
    else
      if x1 = (2 : Int32) then
        bd (fX6_leavers σ o) fun r14 =>
        some r14
      else
        if x1 = (3 : Int32) then
          bd (fX6_goneSet σ o) fun r16 =>
          some r16
        else
          if x1 = (4 : Int32) then
            gd (inb (0 : Int32) 26) (
            bd (fX6_sailsOn σ o (mA σ o 7 (0 : Int32).toNatClampNeg)) fun r18 =>
            if r18 = 0 then
              some (0 : Int32)
            else
              some (1 : Int32))
          else
            if x1 = (5 : Int32) then
              some (mI σ o 9)
            else
              some (-1 : Int32)
def fX6_remembers_51  (o : Nat) : Nat → Mem → Int32 → Option Mem
  | 0, _, _ => none
  | n + 1, σ, x1 =>
    if (26 : Int32) ≤ x1 then
      stp (sI σ o 9 ((mI σ o 9) + (1 : Int32))) fun σ9 =>
      some σ9
    else
      gd (inb x1 26) (
      gd (inb (((26 : Int32) * (mI σ o 9)) + x1) 260) (
      stp (sA σ o 8 (((26 : Int32) * (mI σ o 9)) + x1).toNatClampNeg (mA σ o 7 x1.toNatClampNeg)) fun σ10 =>
      fX6_remembers_51 o n σ10 (x1 + 1)))
def fX6_remembers_11  (o : Nat) : Nat → Mem → Int32 → Option Mem
  | 0, _, _ => none
  | n + 1, σ, x1 =>
    if (234 : Int32) ≤ x1 then
      stp (sI σ o 9 ((mI σ o 9) - (1 : Int32))) fun σ12 =>
      fX6_remembers_51 o FU σ12 (0 : Int32)
    else
      gd (inb (x1 + (26 : Int32)) 260) (
      gd (inb x1 260) (
      stp (sA σ o 8 x1.toNatClampNeg (mA σ o 8 (x1 + (26 : Int32)).toNatClampNeg)) fun σ13 =>
      fX6_remembers_11 o n σ13 (x1 + 1)))
def fX6_remembers (σ : Mem) (o : Nat) : Option Mem :=
  if mI σ o 9 = (10 : Int32) then
    fX6_remembers_11 o FU σ (0 : Int32)
  else
    fX6_remembers_51 o FU σ (0 : Int32)
def fX6_puts_139 (k82 : Mem → Int32 → Int32 → Int32 → Option (Int32 × Mem)) (o : Nat) (σ : Mem) (x2 : Int32) (x3 : Int32) (x4 : Int32) (x5 : Int32) (xs0 : Int32) (xs1 : Int32) : Option (Int32 × Mem) :=
  gd (inb xs1 26) (
  stp (sA σ o 7 xs1.toNatClampNeg xs0) fun σ15 =>
  if x5 = 0 then
    k82 σ15 x2 (x3 + (0 : Int32)) (x4 + 1)
  else
    k82 σ15 x2 (x3 + (1 : Int32)) (x4 + 1))
def fX6_puts_109 (k82 : Mem → Int32 → Int32 → Int32 → Option (Int32 × Mem)) (o : Nat) (σ : Mem) (x2 : Int32) (x3 : Int32) (x4 : Int32) (xs0 : Int32) : Option (Int32 × Mem) :=
  if xs0 = 0 then
    gd (inb ((8 : Int32) + x4) 26) (
    fX6_puts_139 k82 o σ x2 x3 x4 xs0 (mA σ o 7 ((8 : Int32) + x4).toNatClampNeg) ((8 : Int32) + x4))
  else
    fX6_puts_139 k82 o σ x2 x3 x4 xs0 (0 : Int32) ((8 : Int32) + x4)
def fX6_puts_82  (o : Nat) : Nat → Mem → Int32 → Int32 → Int32 → Option (Int32 × Mem)
  | 0, _, _, _, _ => none
  | n + 1, σ, x2, x3, x4 =>
    if mI σ o 3 ≤ x4 then
      some (x3, σ)
    else
      gd (inb ((2 : Int32) + x4) 26) (
      if mA σ o 7 ((2 : Int32) + x4).toNatClampNeg = x2 then
        fX6_puts_109 (fX6_puts_82 o n) o σ x2 x3 x4 (1 : Int32)
      else
        fX6_puts_109 (fX6_puts_82 o n) o σ x2 x3 x4 (0 : Int32))
def fX6_puts (σ : Mem) (o : Nat) (x1 : Int32) (x2 : Int32) : Option (Int32 × Mem) :=
  bd (fX6_isTraveller σ o x1) fun r20 =>
  if r20 = 0 then
    some ((-1 : Int32), σ)
  else
    bd (fX6_isRow σ o x2) fun r22 =>
    if r22 = 0 then
      some ((-1 : Int32), σ)
    else
      gd (inb ((2 : Int32) * x1) 12) (
      gd (inb (0 : Int32) 26) (
      if mA σ o 7 (0 : Int32).toNatClampNeg < mA σ o 4 ((2 : Int32) * x1).toNatClampNeg then
        some ((-2 : Int32), σ)
      else
        gd (inb ((2 : Int32) + x1) 26) (
        if mA σ o 7 ((2 : Int32) + x1).toNatClampNeg = (-9 : Int32) then
          gd (inb ((14 : Int32) + x1) 26) (
          if mA σ o 7 ((14 : Int32) + x1).toNatClampNeg = (1 : Int32) then
            some ((-2 : Int32), σ)
          else
            bd (fX6_remembers σ o) fun σ27 =>
            gd (inb ((2 : Int32) + x1) 26) (
            stp (sA σ27 o 7 ((2 : Int32) + x1).toNatClampNeg x2) fun σ28 =>
            fX6_puts_82 o FU σ28 x2 (0 : Int32) (0 : Int32)))
        else
          some ((-2 : Int32), σ))))
def fX6_vinegar_20 (k5 : Nat → Nat → Nat → Int32 → Int32 → Int32 → Option Int32) (σ : Mem) (o : Nat) : Nat → Nat → Nat → Nat → Int32 → Int32 → Int32 → Int32 → Int32 → Option Int32
  | 0, _, _, _, _, _, _, _, _ => none
  | n + 1, a1, b1, n1, x2, x3, x4, x5, x6 =>
    if mI σ o 3 ≤ x6 then
      if x5 = 0 then
        k5 a1 b1 n1 x2 (x3 + (0 : Int32)) (x4 + 1)
      else
        k5 a1 b1 n1 x2 (x3 + ((1 : Int32) + (x5 / (2 : Int32)))) (x4 + 1)
    else
      gd (inb (x2 + x6) n1) (
      if mA σ a1 b1 (x2 + x6).toNatClampNeg = x4 then
        fX6_vinegar_20 k5 σ o n a1 b1 n1 x2 x3 x4 (x5 + (1 : Int32)) (x6 + 1)
      else
        fX6_vinegar_20 k5 σ o n a1 b1 n1 x2 x3 x4 (x5 + (0 : Int32)) (x6 + 1))
def fX6_vinegar_5  (σ : Mem) (o : Nat) : Nat → Nat → Nat → Nat → Int32 → Int32 → Int32 → Option Int32
  | 0, _, _, _, _, _, _ => none
  | n + 1, a1, b1, n1, x2, x3, x4 =>
    if mI σ o 1 ≤ x4 then
      some x3
    else
      fX6_vinegar_20 (fX6_vinegar_5 σ o n) σ o FU a1 b1 n1 x2 x3 x4 (0 : Int32) (0 : Int32)
def fX6_vinegar (σ : Mem) (o : Nat) (a1 b1 n1 : Nat) (x2 : Int32) : Option Int32 :=
  fX6_vinegar_5 σ o FU a1 b1 n1 x2 (0 : Int32) (0 : Int32)
def fX6_day_49  (o : Nat) : Nat → Mem → Int32 → Option (Int32 × Mem)
  | 0, _, _ => none
  | n + 1, σ, x1 =>
    if mI σ o 3 ≤ x1 then
      bd (fX6_leavers σ o) fun r12 =>
      some (r12, σ)
    else
      gd (inb ((8 : Int32) + x1) 26) (
      gd (inb ((2 : Int32) + x1) 26) (
      if mA σ o 7 ((2 : Int32) + x1).toNatClampNeg = (-9 : Int32) then
        gd (inb ((8 : Int32) + x1) 26) (
        stp (sA σ o 7 ((8 : Int32) + x1).toNatClampNeg ((mA σ o 7 ((8 : Int32) + x1).toNatClampNeg) + (0 : Int32))) fun σ15 =>
        fX6_day_49 o n σ15 (x1 + 1))
      else
        gd (inb ((8 : Int32) + x1) 26) (
        stp (sA σ o 7 ((8 : Int32) + x1).toNatClampNeg ((mA σ o 7 ((8 : Int32) + x1).toNatClampNeg) + (1 : Int32))) fun σ14 =>
        fX6_day_49 o n σ14 (x1 + 1))))
def fX6_day (σ : Mem) (o : Nat) : Option (Int32 × Mem) :=
  gd (inb (0 : Int32) 26) (
  if mA σ o 7 (0 : Int32).toNatClampNeg = (200 : Int32) then
    some ((-2 : Int32), σ)
  else
    bd (fX6_remembers σ o) fun σ17 =>
    gd (inb (1 : Int32) 26) (
    bd (fX6_vinegar σ17 o o 7 26 (2 : Int32)) fun r18 =>
    gd (inb (1 : Int32) 26) (
    stp (sA σ17 o 7 (1 : Int32).toNatClampNeg ((mA σ17 o 7 (1 : Int32).toNatClampNeg) + r18)) fun σ19 =>
    gd (inb (0 : Int32) 26) (
    gd (inb (0 : Int32) 26) (
    stp (sA σ19 o 7 (0 : Int32).toNatClampNeg ((mA σ19 o 7 (0 : Int32).toNatClampNeg) + (1 : Int32))) fun σ20 =>
    fX6_day_49 o FU σ20 (0 : Int32))))))
def fX6_sails (σ : Mem) (o : Nat) (x1 : Int32) : Option (Int32 × Mem) :=
  bd (fX6_isTraveller σ o x1) fun r13 =>
  if r13 = 0 then
    some ((-1 : Int32), σ)
  else
    bd (fX6_mayLeave σ o x1) fun r15 =>
    if r15 = 0 then
      some ((-2 : Int32), σ)
    else
      gd (inb (0 : Int32) 26) (
      bd (fX6_sailsOn σ o (mA σ o 7 (0 : Int32).toNatClampNeg)) fun r17 =>
      if r17 = 0 then
        some ((-2 : Int32), σ)
      else
        bd (fX6_remembers σ o) fun σ19 =>
        gd (inb ((2 : Int32) + x1) 26) (
        stp (sA σ19 o 7 ((2 : Int32) + x1).toNatClampNeg (-9 : Int32)) fun σ20 =>
        gd (inb ((8 : Int32) + x1) 26) (
        stp (sA σ20 o 7 ((8 : Int32) + x1).toNatClampNeg (0 : Int32)) fun σ21 =>
        gd (inb ((14 : Int32) + x1) 26) (
        stp (sA σ21 o 7 ((14 : Int32) + x1).toNatClampNeg (1 : Int32)) fun σ22 =>
        bd (fX6_goneSet σ22 o) fun r23 =>
        bd (fX6_bits r23) fun r24 =>
        some (r24, σ22)))))
def fX6_undo_22  (o : Nat) : Nat → Mem → Int32 → Option (Int32 × Mem)
  | 0, _, _ => none
  | n + 1, σ, x1 =>
    if (26 : Int32) ≤ x1 then
      some (mI σ o 9, σ)
    else
      gd (inb (((26 : Int32) * (mI σ o 9)) + x1) 260) (
      gd (inb x1 26) (
      stp (sA σ o 7 x1.toNatClampNeg (mA σ o 8 (((26 : Int32) * (mI σ o 9)) + x1).toNatClampNeg)) fun σ6 =>
      fX6_undo_22 o n σ6 (x1 + 1)))
def fX6_undo (σ : Mem) (o : Nat) : Option (Int32 × Mem) :=
  if mI σ o 9 = 0 then
    some ((-2 : Int32), σ)
  else
    stp (sI σ o 9 ((mI σ o 9) - (1 : Int32))) fun σ8 =>
    fX6_undo_22 o FU σ8 (0 : Int32)
def fX6_comes_14  (o : Nat) : Nat → Mem → Int32 → Int32 → Option Mem
  | 0, _, _, _ => none
  | n + 1, σ, x1, x2 =>
    if mI σ o 3 ≤ x2 then
      some σ
    else
      gd (inb x2 6) (
      gd (inb x1 6) (
      if mA σ o 31 x2.toNatClampNeg = mA σ o 30 x1.toNatClampNeg then
        gd (inb x2 6) (
        stp (sA σ o 32 x2.toNatClampNeg (0 : Int32)) fun σ9 =>
        fX6_comes_14 o n σ9 x1 (x2 + 1))
      else
        gd (inb x2 6) (
        gd (inb x2 6) (
        stp (sA σ o 32 x2.toNatClampNeg (mA σ o 32 x2.toNatClampNeg)) fun σ8 =>
        fX6_comes_14 o n σ8 x1 (x2 + 1)))))
def fX6_comes (σ : Mem) (o : Nat) (x1 : Int32) : Option Mem :=
  gd (inb x1 6) (
  gd (inb x1 6) (
  stp (sA σ o 31 x1.toNatClampNeg (mA σ o 30 x1.toNatClampNeg)) fun σ10 =>
  fX6_comes_14 o FU σ10 x1 (0 : Int32)))
def fX6_goes_156 (k46 : Mem → Int32 → Int32 → Int32 → Option (Int32 × Mem)) (o : Nat) : Nat → Mem → Int32 → Int32 → Int32 → Int32 → Option (Int32 × Mem)
  | 0, _, _, _, _, _ => none
  | n + 1, σ, x1, x2, x3, x4 =>
    if mI σ o 3 ≤ x4 then
      if x1 ≤ 0 then
        k46 σ x1 (x2 + (0 : Int32)) (x3 + 1)
      else
        bd (fX6_vinegar σ o o 31 6 (0 : Int32)) fun r23 =>
        k46 σ x1 (x2 + r23) (x3 + 1)
    else
      gd (inb ((2 : Int32) * x4) 12) (
      if mA σ o 4 ((2 : Int32) * x4).toNatClampNeg = x3 then
        bd (fX6_comes σ o x4) fun σ25 =>
        fX6_goes_156 k46 o n σ25 x1 x2 x3 (x4 + 1)
      else
        fX6_goes_156 k46 o n σ x1 x2 x3 (x4 + 1))
def fX6_goes_91 (k46 : Mem → Int32 → Int32 → Int32 → Option (Int32 × Mem)) (k53 : Mem → Int32 → Int32 → Int32 → Int32 → Option (Int32 × Mem)) (o : Nat) (σ : Mem) (x1 : Int32) (x2 : Int32) (x3 : Int32) (x4 : Int32) (xs0 : Int32) (xs1 : Int32) (xs2 : Int32) : Option (Int32 × Mem) :=
  gd (inb xs2 6) (
  stp (sA σ o 32 xs2.toNatClampNeg (xs1 + xs0)) fun σ26 =>
  gd (inb x4 6) (
  if mA σ26 o 31 x4.toNatClampNeg = (-9 : Int32) then
    k53 σ26 x1 x2 x3 (x4 + 1)
  else
    gd (inb x4 6) (
    if mA σ26 o 32 x4.toNatClampNeg < mI σ26 o 0 then
      k53 σ26 x1 x2 x3 (x4 + 1)
    else
      bd (fX6_sailsOn σ26 o x3) fun r29 =>
      if r29 = 0 then
        k53 σ26 x1 x2 x3 (x4 + 1)
      else
        gd (inb x4 6) (
        stp (sA σ26 o 33 x4.toNatClampNeg x3) fun σ31 =>
        gd (inb x4 6) (
        stp (sA σ31 o 31 x4.toNatClampNeg (-9 : Int32)) fun σ32 =>
        k53 σ32 (x1 + (-1)) x2 x3 (x4 + 1))))))
def fX6_goes_53 (k46 : Mem → Int32 → Int32 → Int32 → Option (Int32 × Mem)) (o : Nat) : Nat → Mem → Int32 → Int32 → Int32 → Int32 → Option (Int32 × Mem)
  | 0, _, _, _, _, _ => none
  | n + 1, σ, x1, x2, x3, x4 =>
    if mI σ o 3 ≤ x4 then
      fX6_goes_156 k46 o FU σ x1 x2 x3 (0 : Int32)
    else
      gd (inb x4 6) (
      gd (inb x4 6) (
      if mA σ o 31 x4.toNatClampNeg = (-9 : Int32) then
        fX6_goes_91 k46 (fX6_goes_53 k46 o n) o σ x1 x2 x3 x4 (0 : Int32) (mA σ o 32 x4.toNatClampNeg) x4
      else
        if x3 = 0 then
          fX6_goes_91 k46 (fX6_goes_53 k46 o n) o σ x1 x2 x3 x4 (0 : Int32) (mA σ o 32 x4.toNatClampNeg) x4
        else
          fX6_goes_91 k46 (fX6_goes_53 k46 o n) o σ x1 x2 x3 x4 (1 : Int32) (mA σ o 32 x4.toNatClampNeg) x4))
def fX6_goes_46  (o : Nat) : Nat → Mem → Int32 → Int32 → Int32 → Option (Int32 × Mem)
  | 0, _, _, _, _ => none
  | n + 1, σ, x1, x2, x3 =>
    if x1 ≤ 0 then
      some (x2, σ)
    else
      fX6_goes_53 (fX6_goes_46 o n) o FU σ x1 x2 x3 (0 : Int32)
def fX6_goes_2  (o : Nat) : Nat → Mem → Int32 → Option (Int32 × Mem)
  | 0, _, _ => none
  | n + 1, σ, x1 =>
    if (6 : Int32) ≤ x1 then
      fX6_goes_46 o FU σ (mI σ o 3) (0 : Int32) (0 : Int32)
    else
      gd (inb x1 6) (
      stp (sA σ o 31 x1.toNatClampNeg (-9 : Int32)) fun σ38 =>
      gd (inb x1 6) (
      stp (sA σ38 o 32 x1.toNatClampNeg (0 : Int32)) fun σ39 =>
      gd (inb x1 6) (
      stp (sA σ39 o 33 x1.toNatClampNeg (-9 : Int32)) fun σ40 =>
      fX6_goes_2 o n σ40 (x1 + 1))))
def fX6_goes (σ : Mem) (o : Nat) : Option (Int32 × Mem) :=
  fX6_goes_2 o FU σ (0 : Int32)
def fX6_power_5  (o : Nat) : Nat → Int32 → Int32 → Int32 → Int32 → Option Int32
  | 0, _, _, _, _ => none
  | n + 1, x1, x2, x3, x4 =>
    if x2 ≤ x4 then
      some x3
    else
      fX6_power_5 o n x1 x2 (x3 * x1) (x4 + 1)
def fX6_power (o : Nat) (x1 : Int32) (x2 : Int32) : Option Int32 :=
  fX6_power_5 o FU x1 x2 (1 : Int32) (0 : Int32)
def fX6_lays_9  (o : Nat) : Nat → Mem → Int32 → Int32 → Option Mem
  | 0, _, _, _ => none
  | n + 1, σ, x2, x3 =>
    if x3 < 0 then
      some σ
    else
      gd (decide (¬ (mI σ o 1) = 0)) (
      gd (inb x3 6) (
      stp (sA σ o 30 x3.toNatClampNeg (x2 - x2 / (mI σ o 1) * (mI σ o 1))) fun σ4 =>
      gd (decide (¬ (mI σ4 o 1) = 0)) (
      fX6_lays_9 o n σ4 (x2 / (mI σ4 o 1)) (x3 + (-1)))))
def fX6_lays (σ : Mem) (o : Nat) (x1 : Int32) : Option Mem :=
  fX6_lays_9 o FU σ x1 ((mI σ o 3) - (1 : Int32))
def fX6_sailedBy_4  (σ : Mem) (o : Nat) : Nat → Int32 → Int32 → Int32 → Option Int32
  | 0, _, _, _ => none
  | n + 1, x1, x2, x3 =>
    if mI σ o 3 ≤ x3 then
      some x2
    else
      gd (inb x3 6) (
      if x1 < mA σ o 33 x3.toNatClampNeg then
        fX6_sailedBy_4 σ o n x1 (x2 + (0 : Int32)) (x3 + 1)
      else
        fX6_sailedBy_4 σ o n x1 (x2 + (1 : Int32)) (x3 + 1))
def fX6_sailedBy (σ : Mem) (o : Nat) (x1 : Int32) : Option Int32 :=
  fX6_sailedBy_4 σ o FU x1 (0 : Int32) (0 : Int32)
def fX6_most_79 (k35 : Mem → Int32 → Int32 → Int32 → Int32 → Int32 → Option (Int32 × Mem)) (o : Nat) (σ : Mem) (x1 : Int32) (x2 : Int32) (x4 : Int32) (x5 : Int32) (xs0 : Int32) : Option (Int32 × Mem) :=
  bd (fX6_sailedBy σ o x1) fun r18 =>
  if r18 ≤ x4 then
    k35 σ x1 x2 xs0 x4 (x5 + 1)
  else
    bd (fX6_sailedBy σ o x1) fun r20 =>
    k35 σ x1 x2 xs0 r20 (x5 + 1)
def fX6_most_35  (o : Nat) : Nat → Mem → Int32 → Int32 → Int32 → Int32 → Int32 → Option (Int32 × Mem)
  | 0, _, _, _, _, _, _ => none
  | n + 1, σ, x1, x2, x3, x4, x5 =>
    bd (fX6_power o (mI σ o 1) (mI σ o 3)) fun r21 =>
    if r21 ≤ x5 then
      bd (fX6_lays σ o x3) fun σ23 =>
      if x2 = (-9 : Int32) then
        some (x4, σ23)
      else
        gd (inb x2 6) (
        some (mA σ23 o 30 x2.toNatClampNeg, σ23))
    else
      bd (fX6_lays σ o x5) fun σ25 =>
      bd2 (fX6_goes σ25 o) fun r26 σ27 =>
      bd (fX6_sailedBy σ27 o x1) fun r28 =>
      if r28 ≤ x4 then
        fX6_most_79 (fX6_most_35 o n) o σ27 x1 x2 x4 x5 x3
      else
        fX6_most_79 (fX6_most_35 o n) o σ27 x1 x2 x4 x5 x5
def fX6_most (σ : Mem) (o : Nat) (x1 : Int32) (x2 : Int32) : Option (Int32 × Mem) :=
  bd (fX6_in x1 (0 : Int32) (200 : Int32)) fun r30 =>
  if r30 = 0 then
    some ((-1 : Int32), σ)
  else
    if x2 = (-9 : Int32) then
      fX6_most_35 o FU σ x1 x2 (0 : Int32) (-1 : Int32) (0 : Int32)
    else
      bd (fX6_isTraveller σ o x2) fun r33 =>
      if r33 = 0 then
        some ((-1 : Int32), σ)
      else
        fX6_most_35 o FU σ x1 x2 (0 : Int32) (-1 : Int32) (0 : Int32)
def fX6_late_34 (k6 : Int32 → Int32 → Int32 → Option Int32) (σ : Mem) (o : Nat) (x2 : Int32) (x3 : Int32) (xs0 : Int32) : Option Int32 :=
  gd (inb x3 6) (
  k6 xs0 (x2 + (mA σ o 33 x3.toNatClampNeg)) (x3 + 1))
def fX6_late_6  (σ : Mem) (o : Nat) : Nat → Int32 → Int32 → Int32 → Option Int32
  | 0, _, _, _ => none
  | n + 1, x1, x2, x3 =>
    if mI σ o 3 ≤ x3 then
      some (((10000 : Int32) * x1) + x2)
    else
      gd (inb x3 6) (
      if mA σ o 33 x3.toNatClampNeg ≤ x1 then
        fX6_late_34 (fX6_late_6 σ o n) σ o x2 x3 x1
      else
        gd (inb x3 6) (
        fX6_late_34 (fX6_late_6 σ o n) σ o x2 x3 (mA σ o 33 x3.toNatClampNeg)))
def fX6_late (σ : Mem) (o : Nat) : Option Int32 :=
  fX6_late_6 σ o FU (0 : Int32) (0 : Int32) (0 : Int32)
def fX6_soonest_66 (k24 : Mem → Int32 → Int32 → Int32 → Int32 → Option (Int32 × Mem)) (o : Nat) (σ : Mem) (x1 : Int32) (x3 : Int32) (x4 : Int32) (xs0 : Int32) : Option (Int32 × Mem) :=
  bd (fX6_late σ o) fun r16 =>
  if x3 ≤ r16 then
    k24 σ x1 xs0 x3 (x4 + 1)
  else
    bd (fX6_late σ o) fun r18 =>
    k24 σ x1 xs0 r18 (x4 + 1)
def fX6_soonest_24  (o : Nat) : Nat → Mem → Int32 → Int32 → Int32 → Int32 → Option (Int32 × Mem)
  | 0, _, _, _, _, _ => none
  | n + 1, σ, x1, x2, x3, x4 =>
    bd (fX6_power o (mI σ o 1) (mI σ o 3)) fun r19 =>
    if r19 ≤ x4 then
      bd (fX6_lays σ o x2) fun σ21 =>
      if x1 = (-9 : Int32) then
        some (x3 / (10000 : Int32), σ21)
      else
        gd (inb x1 6) (
        some (mA σ21 o 30 x1.toNatClampNeg, σ21))
    else
      bd (fX6_lays σ o x4) fun σ23 =>
      bd2 (fX6_goes σ23 o) fun r24 σ25 =>
      bd (fX6_late σ25 o) fun r26 =>
      if x3 ≤ r26 then
        fX6_soonest_66 (fX6_soonest_24 o n) o σ25 x1 x3 x4 x2
      else
        fX6_soonest_66 (fX6_soonest_24 o n) o σ25 x1 x3 x4 x4
def fX6_soonest (σ : Mem) (o : Nat) (x1 : Int32) : Option (Int32 × Mem) :=
  if x1 = (-9 : Int32) then
    fX6_soonest_24 o FU σ x1 (0 : Int32) (1000000000 : Int32) (0 : Int32)
  else
    bd (fX6_isTraveller σ o x1) fun r29 =>
    if r29 = 0 then
      some ((-1 : Int32), σ)
    else
      fX6_soonest_24 o FU σ x1 (0 : Int32) (1000000000 : Int32) (0 : Int32)
def fX6_plan_41  (o : Nat) : Nat → Mem → Int32 → Int32 → Int32 → Option (Int32 × Mem)
  | 0, _, _, _, _ => none
  | n + 1, σ, x2, x3, x4 =>
    if mI σ o 3 ≤ x4 then
      bd2 (fX6_goes σ o) fun r15 σ16 =>
      if x2 = (-9 : Int32) then
        some (r15, σ16)
      else
        gd (inb x2 6) (
        some (mA σ16 o 33 x2.toNatClampNeg, σ16))
    else
      gd (inb x4 6) (
      stp (sA σ o 30 x4.toNatClampNeg (x3 - x3 / (10 : Int32) * (10 : Int32))) fun σ18 =>
      gd (inb x4 6) (
      bd (fX6_isRow σ18 o (mA σ18 o 30 x4.toNatClampNeg)) fun r19 =>
      if r19 = 0 then
        some ((-1 : Int32), σ18)
      else
        fX6_plan_41 o n σ18 x2 (x3 / (10 : Int32)) (x4 + 1)))
def fX6_plan_14  (o : Nat) (σ : Mem) (x1 : Int32) (x2 : Int32) : Option (Int32 × Mem) :=
  bd (fX6_power o (10 : Int32) (mI σ o 3)) fun r21 =>
  bd (fX6_in x1 (0 : Int32) (r21 - (1 : Int32))) fun r22 =>
  if r22 = 0 then
    some ((-1 : Int32), σ)
  else
    fX6_plan_41 o FU σ x2 x1 (0 : Int32)
def fX6_plan (σ : Mem) (o : Nat) (x1 : Int32) (x2 : Int32) : Option (Int32 × Mem) :=
  if x2 = (-9 : Int32) then
    fX6_plan_14 o σ x1 x2
  else
    bd (fX6_isTraveller σ o x2) fun r25 =>
    if r25 = 0 then
      some ((-1 : Int32), σ)
    else
      fX6_plan_14 o σ x1 x2
def fX6_waits (σ : Mem) (o : Nat) (x1 : Int32) : Option Int32 :=
  bd (fX6_isTraveller σ o x1) fun r5 =>
  if r5 = 0 then
    some (-1 : Int32)
  else
    gd (inb ((2 : Int32) + x1) 26) (
    if mA σ o 7 ((2 : Int32) + x1).toNatClampNeg = (-9 : Int32) then
      some (-2 : Int32)
    else
      gd (inb ((8 : Int32) + x1) 26) (
      if mI σ o 0 ≤ mA σ o 7 ((8 : Int32) + x1).toNatClampNeg then
        some (0 : Int32)
      else
        gd (inb ((8 : Int32) + x1) 26) (
        some ((mI σ o 0) - (mA σ o 7 ((8 : Int32) + x1).toNatClampNeg)))))
def fX6_boat_149 (k30 : Int32 → Int32 → Int32 → Int32 → Int32 → Option Int32) (σ : Mem) (o : Nat) (x1 : Int32) (x2 : Int32) (x4 : Int32) (x5 : Int32) (x6 : Int32) (x7 : Int32) (xs0 : Int32) : Option Int32 :=
  if x7 = 0 then
    k30 x1 x2 xs0 x4 (x5 + 1)
  else
    k30 x1 x2 xs0 x6 (x5 + 1)
def fX6_boat_129 (k30 : Int32 → Int32 → Int32 → Int32 → Int32 → Option Int32) (σ : Mem) (o : Nat) (x1 : Int32) (x2 : Int32) (x3 : Int32) (x4 : Int32) (x5 : Int32) (x6 : Int32) (xs0 : Int32) : Option Int32 :=
  if xs0 = 0 then
    fX6_boat_149 k30 σ o x1 x2 x4 x5 x6 xs0 x3
  else
    gd (inb (0 : Int32) 26) (
    fX6_boat_149 k30 σ o x1 x2 x4 x5 x6 xs0 ((mA σ o 7 (0 : Int32).toNatClampNeg) + x5))
def fX6_boat_42 (k30 : Int32 → Int32 → Int32 → Int32 → Int32 → Option Int32) (σ : Mem) (o : Nat) : Nat → Int32 → Int32 → Int32 → Int32 → Int32 → Int32 → Int32 → Option Int32
  | 0, _, _, _, _, _, _, _ => none
  | n + 1, x1, x2, x3, x4, x5, x6, x7 =>
    if mI σ o 3 ≤ x7 then
      gd (inb (0 : Int32) 26) (
      bd (fX6_sailsOn σ o ((mA σ o 7 (0 : Int32).toNatClampNeg) + x5)) fun r19 =>
      if r19 = 0 then
        fX6_boat_129 k30 σ o x1 x2 x3 x4 x5 x6 (0 : Int32)
      else
        if x6 ≤ x4 then
          fX6_boat_129 k30 σ o x1 x2 x3 x4 x5 x6 (0 : Int32)
        else
          fX6_boat_129 k30 σ o x1 x2 x3 x4 x5 x6 (1 : Int32))
    else
      gd (inb ((2 : Int32) + x7) 26) (
      if mA σ o 7 ((2 : Int32) + x7).toNatClampNeg = (-9 : Int32) then
        fX6_boat_42 k30 σ o n x1 x2 x3 x4 x5 (x6 + (0 : Int32)) (x7 + 1)
      else
        gd (inb ((8 : Int32) + x7) 26) (
        if (mA σ o 7 ((8 : Int32) + x7).toNatClampNeg) + x5 < mI σ o 0 then
          fX6_boat_42 k30 σ o n x1 x2 x3 x4 x5 (x6 + (0 : Int32)) (x7 + 1)
        else
          fX6_boat_42 k30 σ o n x1 x2 x3 x4 x5 (x6 + (1 : Int32)) (x7 + 1)))
def fX6_boat_30  (σ : Mem) (o : Nat) : Nat → Int32 → Int32 → Int32 → Int32 → Int32 → Option Int32
  | 0, _, _, _, _, _ => none
  | n + 1, x1, x2, x3, x4, x5 =>
    if x1 < x5 then
      if x3 = (-9 : Int32) then
        some (-9 : Int32)
      else
        if x2 = 0 then
          some x3
        else
          some x4
    else
      fX6_boat_42 (fX6_boat_30 σ o n) σ o FU x1 x2 x3 x4 x5 (0 : Int32) (0 : Int32)
def fX6_boat (σ : Mem) (o : Nat) (x1 : Int32) (x2 : Int32) : Option Int32 :=
  bd (fX6_in x1 (1 : Int32) (60 : Int32)) fun r27 =>
  if r27 = 0 then
    some (-1 : Int32)
  else
    bd (fX6_in x2 (0 : Int32) (1 : Int32)) fun r29 =>
    if r29 = 0 then
      some (-1 : Int32)
    else
      fX6_boat_30 σ o FU x1 x2 (-9 : Int32) (0 : Int32) (0 : Int32)
def fX6_share_6   : Nat → Int64 → Int64 → Int32 → Int64 → Int64 → Option Int64
  | 0, _, _, _, _, _ => none
  | n + 1, x0, x2, x4, x5, x7 =>
    if lg_cmp x7 (0 : Int64) ≤ 0 then
      if x4 = 0 then
        gd (decide (¬ x5 = 0)) (
        some (x0 / x5))
      else
        gd (decide (¬ x5 = 0)) (
        some (x2 / x5))
    else
      gd (decide (¬ x7 = 0)) (
      fX6_share_6 n x0 x2 x4 x7 (x5 - x5 / x7 * x7))
def fX6_share (x0 : Int64) (x2 : Int64) (x4 : Int32) : Option Int64 :=
  fX6_share_6 FU x0 x2 x4 x0 x2
def fX6_clean_29  (σ : Mem) (o : Nat) : Nat → Int32 → Int32 → Int64 → Int64 → Int32 → Option Int64
  | 0, _, _, _, _, _ => none
  | n + 1, x1, x2, x3, x5, x7 =>
    if mI σ o 3 ≤ x7 then
      bd (fX6_share x3 x5 x2) fun r9 =>
      some r9
    else
      gd (inb ((2 : Int32) + x7) 26) (
      if mA σ o 7 ((2 : Int32) + x7).toNatClampNeg = x1 then
        gd (inb (((2 : Int32) * x7) + (1 : Int32)) 12) (
        fX6_clean_29 σ o n x1 x2 (x3 * (((10 : Int32) - (mA σ o 4 (((2 : Int32) * x7) + (1 : Int32)).toNatClampNeg)).toInt64)) (x5 * (10 : Int64)) (x7 + 1))
      else
        fX6_clean_29 σ o n x1 x2 x3 x5 (x7 + 1))
def fX6_clean (σ : Mem) (o : Nat) (x1 : Int32) (x2 : Int32) : Option Int64 :=
  bd (fX6_isRow σ o x1) fun r11 =>
  if r11 = 0 then
    some (-1 : Int64)
  else
    bd (fX6_in x2 (0 : Int32) (1 : Int32)) fun r13 =>
    if r13 = 0 then
      some (-1 : Int64)
    else
      fX6_clean_29 σ o FU x1 x2 (1 : Int64) (1 : Int64) (0 : Int32)
def fX6_findSick_54 (k31 : Mem → Int32 → Int32 → Option Mem) (o : Nat) : Nat → Mem → Int32 → Int32 → Int32 → Int32 → Option Mem
  | 0, _, _, _, _, _ => none
  | n + 1, σ, x1, x2, x3, x4 =>
    if x4 < 0 then
      k31 σ x1 (x2 + 1)
    else
      if x2 = x1 then
        k31 σ x1 (x2 + 1)
      else
        gd (inb x4 7) (
        if x4 = 0 then
          gd (inb x4 7) (
          stp (sB σ o 34 x4.toNatClampNeg (((mB σ o 34 x4.toNatClampNeg) * (((10 : Int32) - x3).toInt64)) + (0 : Int64))) fun σ15 =>
          fX6_findSick_54 k31 o n σ15 x1 x2 x3 (x4 + (-1)))
        else
          gd (inb (x4 - (1 : Int32)) 7) (
          gd (inb x4 7) (
          stp (sB σ o 34 x4.toNatClampNeg (((mB σ o 34 x4.toNatClampNeg) * (((10 : Int32) - x3).toInt64)) + ((mB σ o 34 (x4 - (1 : Int32)).toNatClampNeg) * (x3.toInt64)))) fun σ14 =>
          fX6_findSick_54 k31 o n σ14 x1 x2 x3 (x4 + (-1)))))
def fX6_findSick_31  (o : Nat) : Nat → Mem → Int32 → Int32 → Option Mem
  | 0, _, _, _ => none
  | n + 1, σ, x1, x2 =>
    if mI σ o 3 ≤ x2 then
      some σ
    else
      gd (inb (((2 : Int32) * x2) + (1 : Int32)) 12) (
      fX6_findSick_54 (fX6_findSick_31 o n) o FU σ x1 x2 (mA σ o 4 (((2 : Int32) * x2) + (1 : Int32)).toNatClampNeg) (6 : Int32))
def fX6_findSick_2  (o : Nat) : Nat → Mem → Int32 → Int32 → Option Mem
  | 0, _, _, _ => none
  | n + 1, σ, x1, x2 =>
    if (7 : Int32) ≤ x2 then
      fX6_findSick_31 o FU σ x1 (0 : Int32)
    else
      if x2 = 0 then
        gd (inb x2 7) (
        stp (sB σ o 34 x2.toNatClampNeg (1 : Int64)) fun σ20 =>
        fX6_findSick_2 o n σ20 x1 (x2 + 1))
      else
        gd (inb x2 7) (
        stp (sB σ o 34 x2.toNatClampNeg (0 : Int64)) fun σ19 =>
        fX6_findSick_2 o n σ19 x1 (x2 + 1))
def fX6_findSick (σ : Mem) (o : Nat) (x1 : Int32) : Option Mem :=
  fX6_findSick_2 o FU σ x1 (0 : Int32)
def fX6_well (σ : Mem) (o : Nat) (x1 : Int32) (x2 : Int32) (x3 : Int32) : Option (Int64 × Mem) :=
  bd (fX6_isTraveller σ o x1) fun r11 =>
  if r11 = 0 then
    some ((-1 : Int64), σ)
  else
    bd (fX6_in x2 (0 : Int32) (6 : Int32)) fun r13 =>
    if r13 = 0 then
      some ((-1 : Int64), σ)
    else
      bd (fX6_in x3 (0 : Int32) (1 : Int32)) fun r15 =>
      if r15 = 0 then
        some ((-1 : Int64), σ)
      else
        bd (fX6_findSick σ o x1) fun σ17 =>
        gd (inb x2 7) (
        gd (inb (((2 : Int32) * x1) + (1 : Int32)) 12) (
        bd (fX6_findSick σ17 o (-9 : Int32)) fun σ18 =>
        gd (inb x2 7) (
        if lg_cmp (mB σ18 o 34 x2.toNatClampNeg) (0 : Int64) = 0 then
          some ((-9 : Int64), σ18)
        else
          bd (fX6_share ((mB σ17 o 34 x2.toNatClampNeg) * (((10 : Int32) - (mA σ17 o 4 (((2 : Int32) * x1) + (1 : Int32)).toNatClampNeg)).toInt64)) (mB σ18 o 34 x2.toNatClampNeg) x3) fun r20 =>
          some (r20, σ18))))
def fX6_writes (σ : Mem) (o : Nat) (x1 : Int32) : Option (Int32 × Mem) :=
  bd (fX6_in x1 (0 : Int32) (9 : Int32)) fun r7 =>
  if r7 = 0 then
    some ((-1 : Int32), σ)
  else
    gd (inb (20 : Int32) 26) (
    if mA σ o 7 (20 : Int32).toNatClampNeg = (5 : Int32) then
      some ((-3 : Int32), σ)
    else
      bd (fX6_remembers σ o) fun σ10 =>
      gd (inb (20 : Int32) 26) (
      gd (inb ((21 : Int32) + (mA σ10 o 7 (20 : Int32).toNatClampNeg)) 26) (
      stp (sA σ10 o 7 ((21 : Int32) + (mA σ10 o 7 (20 : Int32).toNatClampNeg)).toNatClampNeg x1) fun σ11 =>
      gd (inb (20 : Int32) 26) (
      gd (inb (20 : Int32) 26) (
      stp (sA σ11 o 7 (20 : Int32).toNatClampNeg ((mA σ11 o 7 (20 : Int32).toNatClampNeg) + (1 : Int32))) fun σ12 =>
      gd (inb (20 : Int32) 26) (
      some (mA σ12 o 7 (20 : Int32).toNatClampNeg, σ12)))))))
def fX6_tears_14  (o : Nat) : Nat → Mem → Int32 → Int32 → Option (Int32 × Mem)
  | 0, _, _, _ => none
  | n + 1, σ, x1, x2 =>
    if (5 : Int32) ≤ x2 then
      gd (inb (20 : Int32) 26) (
      stp (sA σ o 7 (20 : Int32).toNatClampNeg (0 : Int32)) fun σ6 =>
      some (x1, σ6))
    else
      gd (inb ((21 : Int32) + x2) 26) (
      stp (sA σ o 7 ((21 : Int32) + x2).toNatClampNeg (0 : Int32)) fun σ7 =>
      fX6_tears_14 o n σ7 x1 (x2 + 1))
def fX6_tears (σ : Mem) (o : Nat) : Option (Int32 × Mem) :=
  bd (fX6_remembers σ o) fun σ8 =>
  gd (inb (20 : Int32) 26) (
  fX6_tears_14 o FU σ8 (mA σ8 o 7 (20 : Int32).toNatClampNeg) (0 : Int32))
def fX6_madeOf (σ : Mem) (o : Nat) (x1 : Int32) (x2 : Int32) : Option Int32 :=
  if x2 = (10 : Int32) then
    some (10 : Int32)
  else
    gd (inb ((3 : Int32) * x1) 12) (
    bd (fX6_has (mA σ o 6 ((3 : Int32) * x1).toNatClampNeg) x2) fun r6 =>
    if r6 = 0 then
      gd (inb (((3 : Int32) * x1) + (1 : Int32)) 12) (
      if x2 = mA σ o 6 (((3 : Int32) * x1) + (1 : Int32)).toNatClampNeg then
        gd (inb (((3 : Int32) * x1) + (2 : Int32)) 12) (
        some (mA σ o 6 (((3 : Int32) * x1) + (2 : Int32)).toNatClampNeg))
      else
        some x2)
    else
      some (10 : Int32))
def fX6_smokes_18  (o : Nat) : Nat → Mem → Int32 → Int32 → Int32 → Option (Int32 × Mem)
  | 0, _, _, _, _ => none
  | n + 1, σ, x1, x2, x3 =>
    gd (inb (20 : Int32) 26) (
    if mA σ o 7 (20 : Int32).toNatClampNeg ≤ x3 then
      some (x2, σ)
    else
      gd (inb ((21 : Int32) + x3) 26) (
      bd (fX6_madeOf σ o x1 (mA σ o 7 ((21 : Int32) + x3).toNatClampNeg)) fun r9 =>
      gd (inb ((21 : Int32) + x3) 26) (
      stp (sA σ o 7 ((21 : Int32) + x3).toNatClampNeg r9) fun σ10 =>
      gd (inb ((21 : Int32) + x3) 26) (
      if mA σ10 o 7 ((21 : Int32) + x3).toNatClampNeg = (10 : Int32) then
        fX6_smokes_18 o n σ10 x1 (x2 + (1 : Int32)) (x3 + 1)
      else
        fX6_smokes_18 o n σ10 x1 (x2 + (0 : Int32)) (x3 + 1)))))
def fX6_smokes (σ : Mem) (o : Nat) (x1 : Int32) : Option (Int32 × Mem) :=
  bd (fX6_isClerk σ o x1) fun r12 =>
  if r12 = 0 then
    some ((-1 : Int32), σ)
  else
    bd (fX6_remembers σ o) fun σ14 =>
    fX6_smokes_18 o FU σ14 x1 (0 : Int32) (0 : Int32)
def fX6_word (σ : Mem) (o : Nat) (x1 : Int32) : Option Int32 :=
  gd (inb (20 : Int32) 26) (
  bd (fX6_in x1 (0 : Int32) ((mA σ o 7 (20 : Int32).toNatClampNeg) - (1 : Int32))) fun r3 =>
  if r3 = 0 then
    some (-1 : Int32)
  else
    gd (inb ((21 : Int32) + x1) 26) (
    some (mA σ o 7 ((21 : Int32) + x1).toNatClampNeg)))
def fX6_brown_78  (o : Nat) : Nat → Mem → Int32 → Option (Int32 × Mem)
  | 0, _, _ => none
  | n + 1, σ, x2 =>
    if mI σ o 13 ≤ x2 then
      stp (sI σ o 12 ((mI σ o 12) + (1 : Int32))) fun σ13 =>
      some (mI σ13 o 12, σ13)
    else
      gd (inb ((21 : Int32) + x2) 26) (
      gd (inb (((5 : Int32) * (mI σ o 12)) + x2) 20) (
      stp (sA σ o 15 (((5 : Int32) * (mI σ o 12)) + x2).toNatClampNeg (mA σ o 7 ((21 : Int32) + x2).toNatClampNeg)) fun σ14 =>
      fX6_brown_78 o n σ14 (x2 + 1)))
def fX6_brown_44  (o : Nat) (σ : Mem) (x1 : Int32) : Option (Int32 × Mem) :=
  if mI σ o 12 = (4 : Int32) then
    some ((-3 : Int32), σ)
  else
    gd (inb (20 : Int32) 26) (
    stp (sI σ o 13 (mA σ o 7 (20 : Int32).toNatClampNeg)) fun σ16 =>
    gd (inb (mI σ16 o 12) 4) (
    stp (sA σ16 o 14 (mI σ16 o 12).toNatClampNeg x1) fun σ17 =>
    fX6_brown_78 o FU σ17 (0 : Int32)))
def fX6_brown (σ : Mem) (o : Nat) (x1 : Int32) : Option (Int32 × Mem) :=
  bd (fX6_isClerk σ o x1) fun r18 =>
  if r18 = 0 then
    some ((-1 : Int32), σ)
  else
    gd (inb (20 : Int32) 26) (
    if mA σ o 7 (20 : Int32).toNatClampNeg = 0 then
      some ((-2 : Int32), σ)
    else
      if mI σ o 12 ≤ 0 then
        fX6_brown_44 o σ x1
      else
        gd (inb (20 : Int32) 26) (
        if mI σ o 13 = mA σ o 7 (20 : Int32).toNatClampNeg then
          fX6_brown_44 o σ x1
        else
          some ((-2 : Int32), σ)))
def fX6_burn (σ : Mem) (o : Nat) : Option (Int32 × Mem) :=
  stp (sI σ o 12 (0 : Int32)) fun σ2 =>
  some (mI σ o 12, σ2)
def fX6_isCopied (σ : Mem) (o : Nat) (x1 : Int32) : Option Int32 :=
  if mI σ o 12 ≤ 0 then
    some (0 : Int32)
  else
    bd (fX6_in x1 (0 : Int32) ((mI σ o 13) - (1 : Int32))) fun r5 =>
    if r5 = 0 then
      some (0 : Int32)
    else
      some (1 : Int32)
def fX6_stoodAt_16 (k4 : Int32 → Int32 → Int32 → Option Int32) (σ : Mem) (o : Nat) : Nat → Int32 → Int32 → Int32 → Int32 → Int32 → Option Int32
  | 0, _, _, _, _, _ => none
  | n + 1, x1, x2, x3, x4, x5 =>
    if mI σ o 12 ≤ x5 then
      if x4 = 0 then
        k4 x1 (x2 ||| (0 : Int32)) (x3 + 1)
      else
        k4 x1 (x2 ||| ((1 : Int32) <<< (x3 &&& 31))) (x3 + 1)
    else
      if x4 = 0 then
        fX6_stoodAt_16 k4 σ o n x1 x2 x3 (0 : Int32) (x5 + 1)
      else
        gd (inb x5 4) (
        bd (fX6_madeOf σ o (mA σ o 14 x5.toNatClampNeg) x3) fun r10 =>
        gd (inb (((5 : Int32) * x5) + x1) 20) (
        if r10 = mA σ o 15 (((5 : Int32) * x5) + x1).toNatClampNeg then
          fX6_stoodAt_16 k4 σ o n x1 x2 x3 (1 : Int32) (x5 + 1)
        else
          fX6_stoodAt_16 k4 σ o n x1 x2 x3 (0 : Int32) (x5 + 1)))
def fX6_stoodAt_4  (σ : Mem) (o : Nat) : Nat → Int32 → Int32 → Int32 → Option Int32
  | 0, _, _, _ => none
  | n + 1, x1, x2, x3 =>
    if (10 : Int32) ≤ x3 then
      some x2
    else
      fX6_stoodAt_16 (fX6_stoodAt_4 σ o n) σ o FU x1 x2 x3 (1 : Int32) (0 : Int32)
def fX6_stoodAt (σ : Mem) (o : Nat) (x1 : Int32) : Option Int32 :=
  fX6_stoodAt_4 σ o FU x1 (0 : Int32) (0 : Int32)
def fX6_stood (σ : Mem) (o : Nat) (x1 : Int32) : Option Int32 :=
  bd (fX6_isCopied σ o x1) fun r4 =>
  if r4 = 0 then
    some (-1 : Int32)
  else
    bd (fX6_stoodAt σ o x1) fun r6 =>
    some r6
def fX6_sureOf_2  (o : Nat) : Nat → Int32 → Int32 → Option Int32
  | 0, _, _ => none
  | n + 1, x1, x2 =>
    bd (fX6_has x1 x2) fun r3 =>
    if r3 = 0 then
      fX6_sureOf_2 o n x1 (x2 + 1)
    else
      some x2
def fX6_sureOf (o : Nat) (x1 : Int32) : Option Int32 :=
  fX6_sureOf_2 o FU x1 (0 : Int32)
def fX6_ways_15  (σ : Mem) (o : Nat) : Nat → Int32 → Int32 → Option Int32
  | 0, _, _ => none
  | n + 1, x1, x2 =>
    bd (fX6_isCopied σ o x2) fun r6 =>
    if r6 = 0 then
      some x1
    else
      bd (fX6_stoodAt σ o x2) fun r8 =>
      bd (fX6_bits r8) fun r9 =>
      fX6_ways_15 σ o n (x1 * r9) (x2 + 1)
def fX6_ways (σ : Mem) (o : Nat) : Option Int32 :=
  if mI σ o 12 ≤ 0 then
    fX6_ways_15 σ o FU (0 : Int32) (0 : Int32)
  else
    fX6_ways_15 σ o FU (1 : Int32) (0 : Int32)
def fX6_letters (σ : Mem) (o : Nat) (x1 : Int32) : Option Int32 :=
  if x1 = (-9 : Int32) then
    bd (fX6_ways σ o) fun r20 =>
    some r20
  else
    bd (fX6_isCopied σ o x1) fun r12 =>
    if r12 = 0 then
      some (-1 : Int32)
    else
      bd (fX6_stoodAt σ o x1) fun r14 =>
      bd (fX6_ways σ o) fun r15 =>
      if r15 = 0 then
        some (-9 : Int32)
      else
        bd (fX6_bits r14) fun r17 =>
        if r17 ≤ (1 : Int32) then
          bd (fX6_sureOf o r14) fun r19 =>
          some r19
        else
          some (-5 : Int32)
def fX6_reads_110  (o : Nat) (σ : Mem) (x2 : Int32) (x3 : Int32) : Option (Int32 × Mem) :=
  if x2 = 0 then
    some ((0 : Int32), σ)
  else
    if x3 = (1 : Int32) then
      some ((1 : Int32), σ)
    else
      some ((0 : Int32), σ)
def fX6_reads_55 (k16 : Mem → Int32 → Int32 → Option (Int32 × Mem)) (o : Nat) : Nat → Mem → Int32 → Int32 → Int32 → Option (Int32 × Mem)
  | 0, _, _, _, _ => none
  | n + 1, σ, x2, x3, x4 =>
    if x4 ≤ 0 then
      gd (inb (0 : Int32) 5) (
      stp (sA σ o 35 (0 : Int32).toNatClampNeg (x3 - x3 / (11 : Int32) * (11 : Int32))) fun σ16 =>
      stp (sI σ16 o 37 ((mI σ16 o 37) + (1 : Int32))) fun σ17 =>
      k16 σ17 x2 (x3 / (11 : Int32)))
    else
      gd (inb (x4 - (1 : Int32)) 5) (
      gd (inb x4 5) (
      stp (sA σ o 35 x4.toNatClampNeg (mA σ o 35 (x4 - (1 : Int32)).toNatClampNeg)) fun σ18 =>
      fX6_reads_55 k16 o n σ18 x2 x3 (x4 + (-1))))
def fX6_reads_16  (o : Nat) : Nat → Mem → Int32 → Int32 → Option (Int32 × Mem)
  | 0, _, _, _ => none
  | n + 1, σ, x2, x3 =>
    if x2 = 0 then
      fX6_reads_110 o σ x2 x3
    else
      if x3 < (11 : Int32) then
        fX6_reads_110 o σ x2 x3
      else
        if (5 : Int32) ≤ mI σ o 37 then
          fX6_reads_110 o σ x2 x3
        else
          if (10 : Int32) ≤ x3 - x3 / (11 : Int32) * (11 : Int32) then
            fX6_reads_55 (fX6_reads_16 o n) o FU σ (0 : Int32) x3 (mI σ o 37)
          else
            fX6_reads_55 (fX6_reads_16 o n) o FU σ (1 : Int32) x3 (mI σ o 37)
def fX6_reads (σ : Mem) (o : Nat) (x1 : Int32) : Option (Int32 × Mem) :=
  stp (sI σ o 37 (0 : Int32)) fun σ23 =>
  bd (fX6_in x1 (11 : Int32) (1771560 : Int32)) fun r24 =>
  fX6_reads_16 o FU σ23 r24 x1
def fX6_isLetter_22  (σ : Mem) (o : Nat) : Nat → Nat → Nat → Nat → Int32 → Int32 → Option Int32
  | 0, _, _, _, _, _ => none
  | n + 1, a1, b1, n1, x2, x3 =>
    if mI σ o 37 ≤ x3 then
      gd (zb x2) (
      some x2)
    else
      if x2 = 0 then
        fX6_isLetter_22 σ o n a1 b1 n1 (0 : Int32) (x3 + 1)
      else
        gd (inb x3 n1) (
        gd (inb ((21 : Int32) + x3) 26) (
        if mA σ a1 b1 x3.toNatClampNeg = mA σ o 7 ((21 : Int32) + x3).toNatClampNeg then
          fX6_isLetter_22 σ o n a1 b1 n1 (1 : Int32) (x3 + 1)
        else
          fX6_isLetter_22 σ o n a1 b1 n1 (0 : Int32) (x3 + 1)))
def fX6_isLetter (σ : Mem) (o : Nat) (a1 b1 n1 : Nat) : Option Int32 :=
  gd (inb (20 : Int32) 26) (
  if mI σ o 37 = mA σ o 7 (20 : Int32).toNatClampNeg then
    fX6_isLetter_22 σ o FU a1 b1 n1 (1 : Int32) (0 : Int32)
  else
    fX6_isLetter_22 σ o FU a1 b1 n1 (0 : Int32) (0 : Int32))
def fX6_begins_2  (o : Nat) : Nat → Mem → Int32 → Option Mem
  | 0, _, _ => none
  | n + 1, σ, x1 =>
    if (5 : Int32) ≤ x1 then
      some σ
    else
      gd (inb x1 5) (
      gd (inb x1 5) (
      stp (sA σ o 36 x1.toNatClampNeg (mA σ o 35 x1.toNatClampNeg)) fun σ4 =>
      fX6_begins_2 o n σ4 (x1 + 1)))
def fX6_begins (σ : Mem) (o : Nat) : Option Mem :=
  fX6_begins_2 o FU σ (0 : Int32)
def fX6_smokesOn_2  (o : Nat) : Nat → Mem → Int32 → Int32 → Option Mem
  | 0, _, _, _ => none
  | n + 1, σ, x1, x2 =>
    if mI σ o 37 ≤ x2 then
      some σ
    else
      gd (inb x2 5) (
      bd (fX6_madeOf σ o x1 (mA σ o 36 x2.toNatClampNeg)) fun r5 =>
      gd (inb x2 5) (
      stp (sA σ o 36 x2.toNatClampNeg r5) fun σ6 =>
      fX6_smokesOn_2 o n σ6 x1 (x2 + 1)))
def fX6_smokesOn (σ : Mem) (o : Nat) (x1 : Int32) : Option Mem :=
  fX6_smokesOn_2 o FU σ x1 (0 : Int32)
def fX6_whose_14  (o : Nat) : Nat → Mem → Int32 → Int32 → Option (Int32 × Mem)
  | 0, _, _, _ => none
  | n + 1, σ, x2, x3 =>
    if mI σ o 5 ≤ x3 then
      some (x2, σ)
    else
      bd (fX6_begins σ o) fun σ10 =>
      bd (fX6_smokesOn σ10 o x3) fun σ11 =>
      bd (fX6_isLetter σ11 o o 36 5) fun r12 =>
      if r12 = 0 then
        fX6_whose_14 o n σ11 (x2 ||| (0 : Int32)) (x3 + 1)
      else
        fX6_whose_14 o n σ11 (x2 ||| ((1 : Int32) <<< (x3 &&& 31))) (x3 + 1)
def fX6_whose (σ : Mem) (o : Nat) (x1 : Int32) : Option (Int32 × Mem) :=
  bd2 (fX6_reads σ o x1) fun r14 σ15 =>
  if r14 = 0 then
    some ((-1 : Int32), σ15)
  else
    fX6_whose_14 o FU σ15 (0 : Int32) (0 : Int32)
def fX6_makes_62  (o : Nat) : Nat → Mem → Int32 → Int32 → Int32 → Option (Int32 × Mem)
  | 0, _, _, _, _ => none
  | n + 1, σ, x1, x4, x5 =>
    if x1 ≤ x5 then
      bd (fX6_bits x4) fun r11 =>
      if r11 = x1 then
        bd (fX6_isLetter σ o o 36 5) fun r13 =>
        if r13 = 0 then
          some ((0 : Int32), σ)
        else
          some ((1 : Int32), σ)
      else
        some ((0 : Int32), σ)
    else
      gd (inb x5 4) (
      bd (fX6_smokesOn σ o (mA σ o 38 x5.toNatClampNeg)) fun σ15 =>
      fX6_makes_62 o n σ15 x1 x4 (x5 + 1))
def fX6_makes_10  (o : Nat) : Nat → Mem → Int32 → Int32 → Int32 → Int32 → Option (Int32 × Mem)
  | 0, _, _, _, _, _ => none
  | n + 1, σ, x1, x3, x4, x5 =>
    if x5 < 0 then
      bd (fX6_begins σ o) fun σ17 =>
      fX6_makes_62 o FU σ17 x1 x4 (0 : Int32)
    else
      gd (decide (¬ (mI σ o 5) = 0)) (
      gd (inb x5 4) (
      stp (sA σ o 38 x5.toNatClampNeg (x3 - x3 / (mI σ o 5) * (mI σ o 5))) fun σ18 =>
      gd (inb x5 4) (
      gd (decide (¬ (mI σ18 o 5) = 0)) (
      fX6_makes_10 o n σ18 x1 (x3 / (mI σ18 o 5)) (x4 ||| ((1 : Int32) <<< ((mA σ18 o 38 x5.toNatClampNeg) &&& 31))) (x5 + (-1))))))
def fX6_makes (σ : Mem) (o : Nat) (x1 : Int32) (x2 : Int32) : Option (Int32 × Mem) :=
  fX6_makes_10 o FU σ x1 x2 (0 : Int32) (x1 - (1 : Int32))
def fX6_chain_28 (k17 : Mem → Int32 → Int32 → Option (Int32 × Mem)) (o : Nat) : Nat → Mem → Int32 → Int32 → Int32 → Option (Int32 × Mem)
  | 0, _, _, _, _ => none
  | n + 1, σ, x2, x3, x4 =>
    bd (fX6_power o (mI σ o 5) x3) fun r13 =>
    if r13 ≤ x4 then
      k17 σ x2 (x3 + 1)
    else
      bd2 (fX6_makes σ o x3 x4) fun r15 σ16 =>
      if r15 = 0 then
        fX6_chain_28 k17 o n σ16 x2 x3 (x4 + 1)
      else
        if 0 ≤ x2 then
          if x3 ≤ x2 then
            some ((-5 : Int32), σ16)
          else
            gd (inb x2 4) (
            some (mA σ16 o 38 x2.toNatClampNeg, σ16))
        else
          some (x3, σ16)
def fX6_chain_17  (o : Nat) : Nat → Mem → Int32 → Int32 → Option (Int32 × Mem)
  | 0, _, _, _ => none
  | n + 1, σ, x2, x3 =>
    if mI σ o 5 < x3 then
      some ((-9 : Int32), σ)
    else
      fX6_chain_28 (fX6_chain_17 o n) o FU σ x2 x3 (0 : Int32)
def fX6_chain (σ : Mem) (o : Nat) (x1 : Int32) (x2 : Int32) : Option (Int32 × Mem) :=
  if x2 < (-1 : Int32) then
    some ((-1 : Int32), σ)
  else
    bd2 (fX6_reads σ o x1) fun r22 σ23 =>
    if r22 = 0 then
      some ((-1 : Int32), σ23)
    else
      fX6_chain_17 o FU σ23 x2 (0 : Int32)
def fX6_clerkRate (σ : Mem) (o : Nat) (x1 : Int32) : Option (Int32 × Mem) :=
  stp (sL σ o 16 ((mL σ o 16) + (1 : Int64))) fun σ3 =>
  gd (inb ((3 : Int32) * x1) 12) (
  bd (fX6_bits (mA σ3 o 6 ((3 : Int32) * x1).toNatClampNeg)) fun r4 =>
  some (r4, σ3))
def fX6_nunRate (σ : Mem) (o : Nat) (x1 : Int32) : Option (Int32 × Mem) :=
  stp (sL σ o 16 ((mL σ o 16) + (10 : Int64))) fun σ4 =>
  bd2 (fX6_clerkRate σ4 o x1) fun r5 σ6 =>
  gd (inb (((3 : Int32) * x1) + (1 : Int32)) 12) (
  some (r5 + (mA σ6 o 6 (((3 : Int32) * x1) + (1 : Int32)).toNatClampNeg), σ6))
def fX6_nephewRate (σ : Mem) (o : Nat) (x1 : Int32) : Option (Int32 × Mem) :=
  stp (sL σ o 16 ((mL σ o 16) + (100 : Int64))) fun σ4 =>
  bd2 (fX6_clerkRate σ4 o x1) fun r5 σ6 =>
  gd (inb (((3 : Int32) * x1) + (2 : Int32)) 12) (
  some (r5 - (mA σ6 o 6 (((3 : Int32) * x1) + (2 : Int32)).toNatClampNeg), σ6))
def fX6_rate (σ : Mem) (o : Nat) (x1 : Int32) (x2 : Int32) : Option (Int32 × Mem) :=
  bd (fX6_in x1 (0 : Int32) (5 : Int32)) fun r27 =>
  if r27 = 0 then
    some ((-1000000 : Int32), σ)
  else
    bd (fX6_isClerk σ o x2) fun r29 =>
    if r29 = 0 then
      some ((-1000000 : Int32), σ)
    else
      if x1 = (0 : Int32) then
        bd2 (fX6_clerkRate σ o x2) fun r32 σ33 =>
        some (r32, σ33)
      else
        if x1 = (1 : Int32) then
          bd2 (fX6_nunRate σ o x2) fun r35 σ36 =>
          some (r35, σ36)
        else
          if x1 = (2 : Int32) then
            bd2 (fX6_nephewRate σ o x2) fun r38 σ39 =>
            some (r38, σ39)
          else
            if x1 = (3 : Int32) then
              stp (sL σ o 16 ((mL σ o 16) + (1000 : Int64))) fun σ41 =>
              bd2 (fX6_nunRate σ41 o x2) fun r42 σ43 =>
              some ((2 : Int32) * r42, σ43)
            else
              if x1 = (4 : Int32) then
                stp (sL σ o 16 ((mL σ o 16) + (10000 : Int64))) fun σ45 =>
                bd2 (fX6_nephewRate σ45 o x2) fun r46 σ47 =>
                some (r46 + x2, σ47)
              else
                stp (sL σ o 16 ((mL σ o 16) + (100000 : Int64))) fun σ48 =>
                bd2 (fX6_clerkRate σ48 o x2) fun r49 σ50 =>
                bd (fX6_goneSet σ50 o) fun r51 =>
                bd (fX6_bits r51) fun r52 =>
                some (r49 + r52, σ50)
def fX6_keep_13  (o : Nat) : Nat → Mem → Int32 → Int32 → Option (Int32 × Mem)
  | 0, _, _, _ => none
  | n + 1, σ, x1, x2 =>
    if (26 : Int32) ≤ x2 then
      gd (inb x1 2) (
      stp (sA σ o 11 x1.toNatClampNeg (1 : Int32)) fun σ7 =>
      gd (inb (0 : Int32) 26) (
      some (mA σ7 o 7 (0 : Int32).toNatClampNeg, σ7)))
    else
      gd (inb x2 26) (
      gd (inb (((26 : Int32) * x1) + x2) 52) (
      stp (sA σ o 10 (((26 : Int32) * x1) + x2).toNatClampNeg (mA σ o 7 x2.toNatClampNeg)) fun σ8 =>
      fX6_keep_13 o n σ8 x1 (x2 + 1)))
def fX6_keep (σ : Mem) (o : Nat) (x1 : Int32) : Option (Int32 × Mem) :=
  bd (fX6_in x1 (0 : Int32) (1 : Int32)) fun r9 =>
  if r9 = 0 then
    some ((-1 : Int32), σ)
  else
    fX6_keep_13 o FU σ x1 (0 : Int32)
def fX6_back_25  (o : Nat) : Nat → Mem → Int32 → Int32 → Option (Int32 × Mem)
  | 0, _, _, _ => none
  | n + 1, σ, x1, x2 =>
    if (26 : Int32) ≤ x2 then
      stp (sI σ o 9 (0 : Int32)) fun σ8 =>
      gd (inb (0 : Int32) 26) (
      some (mA σ8 o 7 (0 : Int32).toNatClampNeg, σ8))
    else
      gd (inb (((26 : Int32) * x1) + x2) 52) (
      gd (inb x2 26) (
      stp (sA σ o 7 x2.toNatClampNeg (mA σ o 10 (((26 : Int32) * x1) + x2).toNatClampNeg)) fun σ9 =>
      fX6_back_25 o n σ9 x1 (x2 + 1)))
def fX6_back (σ : Mem) (o : Nat) (x1 : Int32) : Option (Int32 × Mem) :=
  bd (fX6_in x1 (0 : Int32) (1 : Int32)) fun r10 =>
  if r10 = 0 then
    some ((-1 : Int32), σ)
  else
    gd (inb x1 2) (
    if mA σ o 11 x1.toNatClampNeg = 0 then
      some ((-2 : Int32), σ)
    else
      fX6_back_25 o FU σ x1 (0 : Int32))
def fX6_count (σ : Mem) (o : Nat) (x1 : Int32) : Option Int32 :=
  if x1 = (0 : Int32) then
    some (mI σ o 0)
  else
    if x1 = (1 : Int32) then
      some (mI σ o 1)
    else
      if x1 = (2 : Int32) then
        some (mI σ o 2)
      else
        if x1 = (3 : Int32) then
          some (mI σ o 3)
        else
          if x1 = (4 : Int32) then
            some (mI σ o 5)
          else
            if x1 = (5 : Int32) then
              gd (inb (20 : Int32) 26) (
              some (mA σ o 7 (20 : Int32).toNatClampNeg))
            else
              if x1 = (6 : Int32) then
                some (mI σ o 12)
              else
                if x1 = (7 : Int32) then
                  some (mI σ o 18)
                else
                  some (-1 : Int32)
def fX6_trace (σ : Mem) (o : Nat) : Option Int64 :=
  some (mL σ o 16)
