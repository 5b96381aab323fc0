def f_X1_turnKeysBy_J25 (k2 : DV → Int32 → Int32 → Option (DV)) (n : Nat) (v : DV) (x1 : Int32) (x2 : Int32) : Option (DV) :=
    ck (ixb x2 6) (
    (if ((v 6) (Int32.toNatClampNeg x2)) = x1 then
    ck (ixb x2 6) (
    k2 (vs v 4 (upd (v 4) (Int32.toNatClampNeg x2) 1)) x1 (x2 + 1))
    else
    k2 v x1 (x2 + 1)))
def f_X1_turnKeysBy_L2 : Nat → DV → Int32 → Int32 → Option (DV)
  | 0, _, _, _ => none
  | n + 1, v, x1, x2 =>
    (if 6 ≤ x2 then
    some v
    else
    ck (ixb x2 6) (
    (if ((v 5) (Int32.toNatClampNeg x2)) = x1 then
    ck (ixb x2 6) (
    f_X1_turnKeysBy_J25 (fun v x1 x2 => f_X1_turnKeysBy_L2 n v x1 x2) n (vs v 4 (upd (v 4) (Int32.toNatClampNeg x2) 0)) x1 x2)
    else
    f_X1_turnKeysBy_J25 (fun v x1 x2 => f_X1_turnKeysBy_L2 n v x1 x2) n v x1 x2)))
def f_X1_turnKeysBy (n0 : Nat) (v0 : DV) (p1 : Int32) : Option (DV) :=
    f_X1_turnKeysBy_L2 n0 v0 p1 0
def f_J9_floorMod_7cf53 (p0 : Int32) (p1 : Int32) : Option (Int32) :=
    ck (decide (¬ p1 = 0)) (
    (if 0 ≤ (p0 ^^^ p1) then
    some (p0 - p0 / p1 * p1)
    else
    (if (p0 - p0 / p1 * p1) = 0 then
    some (p0 - p0 / p1 * p1)
    else
    some ((p0 - p0 / p1 * p1) + p1))))
def f_X1_isLockedAt (v0 : DV) (p1 : Int32) (p2 : Int32) (p3 : Int32) : Option (Int32) :=
    ck (ixb p1 6) (
    (if ((v0 5) (Int32.toNatClampNeg p1)) = (-6) then
    ck (ixb p1 6) (
    (if ((v0 4) (Int32.toNatClampNeg p1)) = 1 then
    some 1
    else
    some 0))
    else
    ck (ixb p1 6) (
    bd1 (f_J9_floorMod_7cf53 (p3 - ((v0 5) (Int32.toNatClampNeg p1))) 24) (fun r37 =>
    ck (ixb p1 6) (
    bd1 (f_J9_floorMod_7cf53 (p3 - ((v0 6) (Int32.toNatClampNeg p1))) 24) (fun r52 =>
    (if (if r52 < r37 then r52 else r37) ≤ (p3 - p2) then
    (if r37 ≤ r52 then
    some 0
    else
    some 1)
    else
    ck (ixb p1 6) (
    (if ((v0 4) (Int32.toNatClampNeg p1)) = 1 then
    some 1
    else
    some 0)))))))))
def f_X1_howManyLocked_L4 : Nat → DV → Int32 → Int32 → Option (Int32)
  | 0, _, _, _ => none
  | n + 1, v, x1, x2 =>
    (if 6 ≤ x2 then
    some x1
    else
    ck (ixb x2 6) (
    f_X1_howManyLocked_L4 n v (x1 + ((v 4) (Int32.toNatClampNeg x2))) (x2 + 1)))
def f_X1_howManyLocked (n0 : Nat) (v0 : DV) : Option (Int32) :=
    f_X1_howManyLocked_L4 n0 v0 0 0
def f_X1_copyFrom (v0 w : DV) : Option (DV) :=
    some (vs (vs (vs (vs v0 3 (va_cpy (w 3) (v0 3) 0 0 6)) 4 (va_cpy (w 4) (v0 4) 0 0 6)) 5 (va_cpy (w 5) (v0 5) 0 0 6)) 6 (va_cpy (w 6) (v0 6) 0 0 6))
def f_X3_isLetter (v0 : DV) (p1 : Int32) : Int32 :=
    (if p1 < 0 then
    0
    else
    (if (v0 1 0) ≤ p1 then
    0
    else
    (if 30 ≤ p1 then
    0
    else
    1)))
theorem oz_X3_isLetter (v0 : DV) (p1 : Int32) : okZ (f_X3_isLetter v0 p1) = true := by
  unfold f_X3_isLetter
  (repeat' split) <;> rfl
def f_X3_lies (v0 : DV) (p1 : Int32) (p2 : Int32) : Option (Int32) :=
    ck (ixb p1 30) (
    (if ((v0 7) (Int32.toNatClampNeg p1)) = p2 then
    ck (ixb p1 30) (
    (if ((v0 11) (Int32.toNatClampNeg p1)) = 0 then
    some 1
    else
    some 0))
    else
    some 0))
def f_X3_ofMood_L5 : Nat → DV → Int32 → Int32 → Int32 → Int32 → Option (Int32)
  | 0, _, _, _, _, _ => none
  | n + 1, v, x1, x2, x3, x4 =>
    (if (v 1 0) ≤ x4 then
    some x3
    else
    ck (ixb x4 30) (
    (if ((v 7) (Int32.toNatClampNeg x4)) = x1 then
    ck (ixb x4 30) (
    (if ((v 11) (Int32.toNatClampNeg x4)) = x2 then
    f_X3_ofMood_L5 n v x1 x2 (x3 + 1) (x4 + 1)
    else
    f_X3_ofMood_L5 n v x1 x2 x3 (x4 + 1)))
    else
    f_X3_ofMood_L5 n v x1 x2 x3 (x4 + 1))))
def f_X3_ofMood (n0 : Nat) (v0 : DV) (p1 : Int32) (p2 : Int32) : Option (Int32) :=
    f_X3_ofMood_L5 n0 v0 p1 p2 0 0
def f_X3_setOf_L5 : Nat → DV → Int32 → Int64 → Int32 → Option (Int64)
  | 0, _, _, _, _ => none
  | n + 1, v, x1, x2, x4 =>
    (if (v 1 0) ≤ x4 then
    some x2
    else
    ck (ixb x4 30) (
    (if ((v 11) (Int32.toNatClampNeg x4)) = x1 then
    f_X3_setOf_L5 n v x1 (x2 ||| (1 <<< (Int32.toInt64 x4 &&& 63))) (x4 + 1)
    else
    f_X3_setOf_L5 n v x1 x2 (x4 + 1))))
def f_X3_setOf (n0 : Nat) (v0 : DV) (p1 : Int32) : Option (Int64) :=
    f_X3_setOf_L5 n0 v0 p1 0 0
def f_X3_heatOfSent_L4 : Nat → DV → Int32 → Int32 → Option (Int32)
  | 0, _, _, _ => none
  | n + 1, v, x1, x2 =>
    (if (v 1 0) ≤ x2 then
    some x1
    else
    ck (ixb x2 30) (
    (if ((v 11) (Int32.toNatClampNeg x2)) = 1 then
    ck (ixb x2 30) (
    f_X3_heatOfSent_L4 n v (x1 + ((v 13) (Int32.toNatClampNeg x2))) (x2 + 1))
    else
    f_X3_heatOfSent_L4 n v x1 (x2 + 1))))
def f_X3_heatOfSent (n0 : Nat) (v0 : DV) : Option (Int32) :=
    f_X3_heatOfSent_L4 n0 v0 0 0
def f_X3_answersTo_L4 : Nat → DV → Int32 → Int32 → Int32 → Option (Int32)
  | 0, _, _, _, _ => none
  | n + 1, v, x1, x2, x3 =>
    (if (v 1 0) ≤ x3 then
    some x2
    else
    ck (ixb x3 30) (
    (if ((v 10) (Int32.toNatClampNeg x3)) = x1 then
    f_X3_answersTo_L4 n v x1 (x2 + 1) (x3 + 1)
    else
    f_X3_answersTo_L4 n v x1 x2 (x3 + 1))))
def f_X3_answersTo (n0 : Nat) (v0 : DV) (p1 : Int32) : Option (Int32) :=
    f_X3_answersTo_L4 n0 v0 p1 0 0
def f_X3_depthOf_L9 : Nat → DV → Int32 → Int32 → Option (Int32)
  | 0, _, _, _ => none
  | n + 1, v, x2, x3 =>
    (if (f_X3_isLetter v x3) = 0 then
    some x2
    else
    (if 30 ≤ x2 then
    some x2
    else
    ck (ixb x3 30) (
    f_X3_depthOf_L9 n v (x2 + 1) ((v 10) (Int32.toNatClampNeg x3)))))
def f_X3_depthOf (n0 : Nat) (v0 : DV) (p1 : Int32) : Option (Int32) :=
    ck (ixb p1 30) (
    f_X3_depthOf_L9 n0 v0 0 ((v0 10) (Int32.toNatClampNeg p1)))
def f_X3_copyFrom (v0 w : DV) : Option (DV) :=
    some (vs (vs (vs (vs (vs (vs (vs (vs v0 1 (fun _ => (w 1 0))) 7 (va_cpy (w 7) (v0 7) 0 0 30)) 8 (va_cpy (w 8) (v0 8) 0 0 30)) 9 (va_cpy (w 9) (v0 9) 0 0 30)) 10 (va_cpy (w 10) (v0 10) 0 0 30)) 11 (va_cpy (w 11) (v0 11) 0 0 30)) 12 (va_cpy (w 12) (v0 12) 0 0 30)) 13 (va_cpy (w 13) (v0 13) 0 0 30))
def f_X6_isMood (p0 : Int32) : Int32 :=
    (if p0 < 0 then
    0
    else
    (if 6 ≤ p0 then
    0
    else
    1))
theorem oz_X6_isMood (p0 : Int32) : okZ (f_X6_isMood p0) = true := by
  unfold f_X6_isMood
  (repeat' split) <;> rfl
def f_X6_isHour (p0 : Int32) : Int32 :=
    (if p0 < 0 then
    0
    else
    (if 24 ≤ p0 then
    0
    else
    1))
theorem oz_X6_isHour (p0 : Int32) : okZ (f_X6_isHour p0) = true := by
  unfold f_X6_isHour
  (repeat' split) <;> rfl
def f_X6_charactersIn_L4 : Nat → Int32 → Int64 → Option (Int32)
  | 0, _, _ => none
  | n + 1, x2, x3 =>
    (if (lg_cmp x3 0) = 0 then
    some x2
    else
    (if 8 ≤ x2 then
    some x2
    else
    (if (lg_cmp (x3 &&& 255) 33) < 0 then
    some 0
    else
    (if (lg_cmp (x3 &&& 255) 126) ≤ 0 then
    f_X6_charactersIn_L4 n (x2 + 1) (UInt64.toInt64 (Int64.toUInt64 x3 >>> (Int64.toUInt64 (Int32.toInt64 8) &&& Int64.toUInt64 63)))
    else
    some 0))))
def f_X6_charactersIn (n0 : Nat) (p0 : Int64) : Option (Int32) :=
    f_X6_charactersIn_L4 n0 0 p0
def f_X6_bitsOf_J72 (n : Nat) (x2 : Int32) (x3 : Int32) (x4 : Int32) (x5 : UInt64) : Option (Int64) :=
    ck (nn64 (FP.dsub x5 FP.dconst1)) (
    ck (nn64 (FP.dmul (FP.dsub x5 FP.dconst1) (FP.l2d (1 <<< (Int32.toInt64 x3 &&& 63))))) (
    some (((Int32.toInt64 (x4 + x2)) <<< (Int32.toInt64 x3 &&& 63)) + (FP.d2l (FP.dmul (FP.dsub x5 FP.dconst1) (FP.l2d (1 <<< (Int32.toInt64 x3 &&& 63))))))))
def f_X6_bitsOf_L43 : Nat → Int32 → Int32 → Int32 → UInt64 → Option (Int64)
  | 0, _, _, _, _ => none
  | n + 1, x2, x3, x4, x5 =>
    (if 0 ≤ (Op.cmpValue (FP.dcmp x5 FP.dconst1) CmpOp.g) then
    f_X6_bitsOf_J72 n x2 x3 x4 x5
    else
    (if x4 ≤ (1 - x2) then
    f_X6_bitsOf_J72 n x2 x3 x4 x5
    else
    ck (nn64 (FP.dmul x5 4611686018427387904)) (
    f_X6_bitsOf_L43 n x2 x3 (x4 + (-1)) (FP.dmul x5 4611686018427387904))))
def f_X6_bitsOf_L14 : Nat → Int32 → Int32 → Int32 → UInt64 → Option (Int64)
  | 0, _, _, _, _ => none
  | n + 1, x2, x3, x4, x5 =>
    (if (Op.cmpValue (FP.dcmp x5 4611686018427387904) CmpOp.l) < 0 then
    f_X6_bitsOf_L43 n x2 x3 x4 x5
    else
    (if x2 ≤ x4 then
    f_X6_bitsOf_L43 n x2 x3 x4 x5
    else
    ck (nn64 (FP.ddiv x5 4611686018427387904)) (
    f_X6_bitsOf_L14 n x2 x3 (x4 + 1) (FP.ddiv x5 4611686018427387904))))
def f_X6_bitsOf (n0 : Nat) (p0 : UInt64) (p2 : Int32) (p3 : Int32) : Option (Int64) :=
    (if 0 < (Op.cmpValue (FP.dcmp p0 FP.dconst0) CmpOp.g) then
    f_X6_bitsOf_L14 n0 p2 p3 0 p0
    else
    some 0)
def f_J13_bitCount_95d88_J55 (x0 : Int64) : Int32 :=
    ((Int64.toInt32 x0) &&& 127)
def f_J13_bitCount_95d88_J48 (x0 : Int64) : Int32 :=
    f_J13_bitCount_95d88_J55 (x0 + (UInt64.toInt64 (Int64.toUInt64 x0 >>> (Int64.toUInt64 (Int32.toInt64 32) &&& Int64.toUInt64 63))))
def f_J13_bitCount_95d88_J41 (x0 : Int64) : Int32 :=
    f_J13_bitCount_95d88_J48 (x0 + (UInt64.toInt64 (Int64.toUInt64 x0 >>> (Int64.toUInt64 (Int32.toInt64 16) &&& Int64.toUInt64 63))))
def f_J13_bitCount_95d88_J34 (x0 : Int64) : Int32 :=
    f_J13_bitCount_95d88_J41 (x0 + (UInt64.toInt64 (Int64.toUInt64 x0 >>> (Int64.toUInt64 (Int32.toInt64 8) &&& Int64.toUInt64 63))))
def f_J13_bitCount_95d88_J24 (x0 : Int64) : Int32 :=
    f_J13_bitCount_95d88_J34 ((x0 + (UInt64.toInt64 (Int64.toUInt64 x0 >>> (Int64.toUInt64 (Int32.toInt64 4) &&& Int64.toUInt64 63)))) &&& 1085102592571150095)
def f_J13_bitCount_95d88_J10 (x0 : Int64) : Int32 :=
    f_J13_bitCount_95d88_J24 ((x0 &&& 3689348814741910323) + ((UInt64.toInt64 (Int64.toUInt64 x0 >>> (Int64.toUInt64 (Int32.toInt64 2) &&& Int64.toUInt64 63))) &&& 3689348814741910323))
def f_J13_bitCount_95d88 (p0 : Int64) : Int32 :=
    f_J13_bitCount_95d88_J10 (p0 - ((UInt64.toInt64 (Int64.toUInt64 p0 >>> (Int64.toUInt64 (Int32.toInt64 1) &&& Int64.toUInt64 63))) &&& 6148914691236517205))
def f_X0_copyFrom (v0 w : DV) : Option (DV) :=
    bd1 (f_X1_copyFrom (vs (vs v0 2 (va_cpy (w 2) (v0 2) 0 0 3)) 0 (fun _ => (w 0 0))) w) (fun v27 =>
    bd1 (f_X3_copyFrom (mx [3, 4, 5, 6] (vs (vs v0 2 (va_cpy (w 2) (v0 2) 0 0 3)) 0 (fun _ => (w 0 0))) v27) w) (fun v38 =>
    some (mx [1, 7, 8, 9, 10, 11, 12, 13] (mx [3, 4, 5, 6] (vs (vs v0 2 (va_cpy (w 2) (v0 2) 0 0 3)) 0 (fun _ => (w 0 0))) v27) v38)))
def f_X0_today (v0 : DV) : Int32 :=
    ((v0 0 0) / 24)
def f_X0_hourOfDay (v0 : DV) : Int32 :=
    ((v0 0 0) - (v0 0 0) / 24 * 24)
def f_X0_changeSetting (v0 : DV) (p1 : Int32) (p2 : Int32) : Option (Int32 × DV) :=
    (if p1 < 0 then
    some ((-2), v0)
    else
    (if 2 < p1 then
    some ((-2), v0)
    else
    (if p2 < 0 then
    some ((-2), v0)
    else
    ck (ixb p1 3) (
    (if p2 ≤ (hsF (Int32.toNatClampNeg p1)) then
    ck (ixb p1 3) (
    ck (ixb p1 3) (
    some (((v0 2) (Int32.toNatClampNeg p1)), (vs v0 2 (upd (v0 2) (Int32.toNatClampNeg p1) p2)))))
    else
    some ((-2), v0))))))
def f_X0_writeLetter_J94 (n : Nat) (v : DV) (x1 : Int32) (x2 : Int32) (x3 : Int32) (x4 : Int32) : Option (Int32 × DV) :=
    ck (ixb x4 30) (
    ck (ixb x4 30) (
    ck (ixb x4 30) (
    ck (ixb x4 30) (
    ck (ixb x4 30) (
    ck (ixb x4 30) (
    some (x4, (vs (vs (vs (vs (vs (vs (vs v 7 (upd (v 7) (Int32.toNatClampNeg x4) x1)) 8 (upd (v 8) (Int32.toNatClampNeg x4) x2)) 9 (upd (v 9) (Int32.toNatClampNeg x4) (f_X0_today (vs (vs v 7 (upd (v 7) (Int32.toNatClampNeg x4) x1)) 8 (upd (v 8) (Int32.toNatClampNeg x4) x2))))) 10 (upd (v 10) (Int32.toNatClampNeg x4) x3)) 11 (upd (v 11) (Int32.toNatClampNeg x4) 0)) 12 (upd (v 12) (Int32.toNatClampNeg x4) (-6))) 1 (fun _ => (x4 + 1))))))))))
def f_X0_writeLetter_J26 (n : Nat) (v : DV) (x1 : Int32) (x2 : Int32) (x3 : Int32) : Option (Int32 × DV) :=
    (if x2 < 0 then
    some ((-2), v)
    else
    (if x2 ≤ 99 then
    (if 30 ≤ (v 1 0) then
    some ((-4), v)
    else
    bd1 (f_X3_ofMood n v x1 0) (fun r61 =>
    (if r61 < 8 then
    (if x3 = (-6) then
    f_X0_writeLetter_J94 n v x1 x2 x3 (v 1 0)
    else
    ck (ixb x3 30) (
    (if ((v 11) (Int32.toNatClampNeg x3)) = 1 then
    f_X0_writeLetter_J94 n v x1 x2 x3 (v 1 0)
    else
    some ((-5), v))))
    else
    some ((-4), v))))
    else
    some ((-2), v)))
def f_X0_writeLetter (n0 : Nat) (v0 : DV) (p1 : Int32) (p2 : Int32) (p3 : Int32) : Option (Int32 × DV) :=
    (if (f_X6_isMood p1) = 0 then
    some ((-1), v0)
    else
    (if p3 = (-6) then
    f_X0_writeLetter_J26 n0 v0 p1 p2 p3
    else
    (if (f_X3_isLetter v0 p3) = 0 then
    some ((-1), v0)
    else
    f_X0_writeLetter_J26 n0 v0 p1 p2 p3)))
def f_X0_turnKey (v0 : DV) (p1 : Int32) : Option (Int32 × DV) :=
    (if (f_X6_isMood p1) = 0 then
    some ((-1), v0)
    else
    ck (ixb p1 6) (
    ck (ixb p1 6) (
    ck (ixb p1 6) (
    some (((upd (v0 4) (Int32.toNatClampNeg p1) (1 - ((v0 4) (Int32.toNatClampNeg p1)))) (Int32.toNatClampNeg p1)), (vs v0 4 (upd (v0 4) (Int32.toNatClampNeg p1) (1 - ((v0 4) (Int32.toNatClampNeg p1))))))))))
def f_X0_changeRest (v0 : DV) (p1 : Int32) (p2 : Int32) : Option (Int32 × DV) :=
    (if (f_X6_isMood p1) = 0 then
    some ((-1), v0)
    else
    (if p2 < 0 then
    some ((-2), v0)
    else
    (if p2 ≤ 30 then
    ck (ixb p1 6) (
    ck (ixb p1 6) (
    some (((v0 3) (Int32.toNatClampNeg p1)), (vs v0 3 (upd (v0 3) (Int32.toNatClampNeg p1) p2)))))
    else
    some ((-2), v0))))
def f_X0_changeHours_J56 (v : DV) (x1 : Int32) (x2 : Int32) (x3 : Int32) (z0 : Int32) : Option (Int32 × DV) :=
    ck (ixb x1 6) (
    (if x2 = (-6) then
    ck (ixb x1 6) (
    some (z0, (vs (vs v 5 (upd (v 5) (Int32.toNatClampNeg x1) x2)) 6 (upd (v 6) (Int32.toNatClampNeg x1) (-6)))))
    else
    ck (ixb x1 6) (
    some (z0, (vs (vs v 5 (upd (v 5) (Int32.toNatClampNeg x1) x2)) 6 (upd (v 6) (Int32.toNatClampNeg x1) x3))))))
def f_X0_changeHours_J37 (v : DV) (x1 : Int32) (x2 : Int32) (x3 : Int32) : Option (Int32 × DV) :=
    ck (ixb x1 6) (
    (if ((v 5) (Int32.toNatClampNeg x1)) = (-6) then
    f_X0_changeHours_J56 v x1 x2 x3 0
    else
    f_X0_changeHours_J56 v x1 x2 x3 1))
def f_X0_changeHours (v0 : DV) (p1 : Int32) (p2 : Int32) (p3 : Int32) : Option (Int32 × DV) :=
    (if (f_X6_isMood p1) = 0 then
    some ((-1), v0)
    else
    (if p2 = (-6) then
    f_X0_changeHours_J37 v0 p1 p2 p3
    else
    (if (f_X6_isHour p2) = 0 then
    some ((-2), v0)
    else
    (if (f_X6_isHour p3) = 0 then
    some ((-2), v0)
    else
    (if p2 = p3 then
    some ((-2), v0)
    else
    f_X0_changeHours_J37 v0 p1 p2 p3)))))
def f_X0_heatNow (v0 : DV) (p1 : Int32) : Option (Int32) :=
    ck (ixb p1 30) (
    (if ((v0 11) (Int32.toNatClampNeg p1)) = 1 then
    ck (ixb p1 30) (
    some ((v0 13) (Int32.toNatClampNeg p1)))
    else
    ck (ixb p1 30) (
    ck (ixb p1 30) (
    some (if 0 < (((v0 8) (Int32.toNatClampNeg p1)) - (((v0 2) (Int32.toNatClampNeg 2)) * ((f_X0_today v0) - ((v0 9) (Int32.toNatClampNeg p1))))) then (((v0 8) (Int32.toNatClampNeg p1)) - (((v0 2) (Int32.toNatClampNeg 2)) * ((f_X0_today v0) - ((v0 9) (Int32.toNatClampNeg p1))))) else 0)))))
def f_X0_isShut (v0 : DV) (p1 : Int32) : Option (Int32) :=
    (if (f_X6_isMood p1) = 0 then
    some 0
    else
    ck (ixb p1 6) (
    (if ((v0 4) (Int32.toNatClampNeg p1)) = 1 then
    some 1
    else
    some 0)))
def f_X0_burnLetter (v0 : DV) (p1 : Int32) : Option (Int32 × DV) :=
    (if (f_X3_isLetter v0 p1) = 0 then
    some ((-1), v0)
    else
    ck (ixb p1 30) (
    (if ((v0 11) (Int32.toNatClampNeg p1)) = 0 then
    ck (ixb p1 30) (
    bd1 (f_X0_isShut v0 ((v0 7) (Int32.toNatClampNeg p1))) (fun r35 =>
    (if r35 = 0 then
    ck (ixb p1 30) (
    bd1 (f_X0_heatNow (vs v0 11 (upd (v0 11) (Int32.toNatClampNeg p1) 2)) p1) (fun r56 =>
    some (r56, (vs v0 11 (upd (v0 11) (Int32.toNatClampNeg p1) 2)))))
    else
    some ((-5), v0))))
    else
    some ((-5), v0))))
def f_X0_send_L2 : Nat → DV → Int64 → Int32 → Option (Int32 × DV)
  | 0, _, _, _ => none
  | n + 1, v, x1, x3 =>
    (if (v 1 0) ≤ x3 then
    some ((f_J13_bitCount_95d88 x1), v)
    else
    (if (lg_cmp ((UInt64.toInt64 (Int64.toUInt64 x1 >>> (Int64.toUInt64 (Int32.toInt64 x3) &&& Int64.toUInt64 63))) &&& 1) 1) = 0 then
    bd1 (f_X0_heatNow v x3) (fun r33 =>
    ck (ixb x3 30) (
    ck (ixb x3 30) (
    ck (ixb x3 30) (
    f_X0_send_L2 n (vs (vs (vs v 13 (upd (v 13) (Int32.toNatClampNeg x3) r33)) 12 (upd (v 12) (Int32.toNatClampNeg x3) (f_X0_today (vs v 13 (upd (v 13) (Int32.toNatClampNeg x3) r33))))) 11 (upd (v 11) (Int32.toNatClampNeg x3) 1)) x1 (x3 + 1)))))
    else
    f_X0_send_L2 n v x1 (x3 + 1)))
def f_X0_send (n0 : Nat) (v0 : DV) (p1 : Int64) : Option (Int32 × DV) :=
    f_X0_send_L2 n0 v0 p1 0
def f_X0_readyDay_J51 (v : DV) (x1 : Int32) (x2 : Int32) (x5 : Int32) : Option (Int32) :=
    ck (ixb x1 30) (
    ck (ixb x2 6) (
    some (((v 9) (Int32.toNatClampNeg x1)) + (if x5 < ((v 3) (Int32.toNatClampNeg x2)) then ((v 3) (Int32.toNatClampNeg x2)) else x5))))
def f_X0_readyDay (v0 : DV) (p1 : Int32) (p2 : Int32) : Option (Int32) :=
    ck (ixb p1 30) (
    (if (((v0 8) (Int32.toNatClampNeg p1)) - ((v0 2) (Int32.toNatClampNeg 1))) ≤ 0 then
    f_X0_readyDay_J51 v0 p1 p2 0
    else
    (if 0 < ((v0 2) (Int32.toNatClampNeg 2)) then
    ck (decide (¬ ((v0 2) (Int32.toNatClampNeg 2)) = 0)) (
    f_X0_readyDay_J51 v0 p1 p2 ((((((v0 8) (Int32.toNatClampNeg p1)) - ((v0 2) (Int32.toNatClampNeg 1))) + ((v0 2) (Int32.toNatClampNeg 2))) - 1) / ((v0 2) (Int32.toNatClampNeg 2))))
    else
    some 1000000)))
def f_X0_setThatWouldGo_L13 (k4 : DV → Int64 → Int32 → Option (Int64)) : Nat → DV → Int64 → Int32 → Int32 → Option (Int64)
  | 0, _, _, _, _ => none
  | n + 1, v, x1, x3, x4 =>
    (if (v 1 0) ≤ x4 then
    k4 v x1 (x3 + 1)
    else
    ck (ixb x3 6) (
    (if ((v 4) (Int32.toNatClampNeg x3)) = 0 then
    bd1 (f_X3_lies v x4 x3) (fun r44 =>
    (if r44 = 0 then
    f_X0_setThatWouldGo_L13 k4 n v x1 x3 (x4 + 1)
    else
    bd1 (f_X0_readyDay v x4 x3) (fun r58 =>
    (if (f_X0_today v) < r58 then
    f_X0_setThatWouldGo_L13 k4 n v x1 x3 (x4 + 1)
    else
    f_X0_setThatWouldGo_L13 k4 n v (x1 ||| (1 <<< (Int32.toInt64 x4 &&& 63))) x3 (x4 + 1)))))
    else
    f_X0_setThatWouldGo_L13 k4 n v x1 x3 (x4 + 1))))
def f_X0_setThatWouldGo_L4 : Nat → DV → Int64 → Int32 → Option (Int64)
  | 0, _, _, _ => none
  | n + 1, v, x1, x3 =>
    (if 6 ≤ x3 then
    some x1
    else
    f_X0_setThatWouldGo_L13 (fun v x1 x3 => f_X0_setThatWouldGo_L4 n v x1 x3) n v x1 x3 0)
def f_X0_setThatWouldGo (n0 : Nat) (v0 : DV) : Option (Int64) :=
    f_X0_setThatWouldGo_L4 n0 v0 0 0
def f_X0_passHours_L37 : Nat → DV → Int32 → Int32 → Int32 → Option (Int32 × DV)
  | 0, _, _, _, _ => none
  | n + 1, v, x1, x2, x3 =>
    (if x1 ≤ x3 then
    some (x2, v)
    else
    bd1 (f_X1_turnKeysBy n v (f_X0_hourOfDay v)) (fun v50 =>
    (if (f_X0_hourOfDay (mx [3, 4, 5, 6] v v50)) = (((mx [3, 4, 5, 6] v v50) 2) (Int32.toNatClampNeg 0)) then
    bd1 (f_X0_setThatWouldGo n (mx [3, 4, 5, 6] v v50)) (fun r69 =>
    bd2 (f_X0_send n (mx [3, 4, 5, 6] v v50) r69) (fun r72 v72 =>
    f_X0_passHours_L37 n (vs v72 0 (fun _ => ((v72 0 0) + 1))) x1 (x2 + r72) (x3 + 1)))
    else
    f_X0_passHours_L37 n (vs (mx [3, 4, 5, 6] v v50) 0 (fun _ => (((mx [3, 4, 5, 6] v v50) 0 0) + 1))) x1 x2 (x3 + 1))))
def f_X0_passHours (n0 : Nat) (v0 : DV) (p1 : Int32) : Option (Int32 × DV) :=
    (if p1 < 1 then
    some ((-2), v0)
    else
    (if p1 ≤ 240 then
    (if (((v0 0 0) + p1) / 24) ≤ 999 then
    f_X0_passHours_L37 n0 v0 p1 0 0
    else
    some ((-5), v0))
    else
    some ((-2), v0)))
def f_X0_heatInDrawer_L4 : Nat → DV → Int32 → Int32 → Int32 → Option (Int32)
  | 0, _, _, _, _ => none
  | n + 1, v, x1, x2, x3 =>
    (if (v 1 0) ≤ x3 then
    some x2
    else
    bd1 (f_X3_lies v x3 x1) (fun r21 =>
    (if r21 = 0 then
    f_X0_heatInDrawer_L4 n v x1 x2 (x3 + 1)
    else
    bd1 (f_X0_heatNow v x3) (fun r30 =>
    f_X0_heatInDrawer_L4 n v x1 (x2 + r30) (x3 + 1)))))
def f_X0_heatInDrawer (n0 : Nat) (v0 : DV) (p1 : Int32) : Option (Int32) :=
    f_X0_heatInDrawer_L4 n0 v0 p1 0 0
def f_X0_hoursTillSent_L58 : Nat → DV → Int32 → Int32 → Int32 → Int32 → Option (Int32)
  | 0, _, _, _, _, _ => none
  | n + 1, v, x3, x4, x6, x7 =>
    (if 2 ≤ x7 then
    some (-6)
    else
    (if (x6 - (v 0 0)) < x3 then
    bd1 (f_X1_isLockedAt v x4 (v 0 0) x6) (fun r90 =>
    (if r90 = 0 then
    some ((x6 - (v 0 0)) + 1)
    else
    f_X0_hoursTillSent_L58 n v x3 x4 (x6 + 24) (x7 + 1)))
    else
    some (-6)))
def f_X0_hoursTillSent (n0 : Nat) (v0 : DV) (p1 : Int32) (p2 : Int32) (p3 : Int32) : Option (Int32) :=
    ck (ixb p1 30) (
    (if (f_X6_isMood ((v0 7) (Int32.toNatClampNeg p1))) = 0 then
    some (-6)
    else
    bd1 (f_X0_readyDay v0 p1 ((v0 7) (Int32.toNatClampNeg p1))) (fun r30 =>
    bd1 (f_J9_floorMod_7cf53 (p2 - (if (v0 0 0) < (r30 * 24) then (r30 * 24) else (v0 0 0))) 24) (fun r49 =>
    f_X0_hoursTillSent_L58 n0 v0 p3 ((v0 7) (Int32.toNatClampNeg p1)) ((if (v0 0 0) < (r30 * 24) then (r30 * 24) else (v0 0 0)) + r49) 0))))
def f_X0_sentWithin_L5 : Nat → DV → Int32 → Int32 → Int32 → Int32 → Option (Int32)
  | 0, _, _, _, _, _ => none
  | n + 1, v, x1, x2, x3, x4 =>
    (if (v 1 0) ≤ x4 then
    some x3
    else
    ck (ixb x4 30) (
    (if ((v 11) (Int32.toNatClampNeg x4)) = 0 then
    bd1 (f_X0_hoursTillSent n v x4 x1 x2) (fun r35 =>
    (if r35 = (-6) then
    f_X0_sentWithin_L5 n v x1 x2 x3 (x4 + 1)
    else
    f_X0_sentWithin_L5 n v x1 x2 (x3 + 1) (x4 + 1)))
    else
    f_X0_sentWithin_L5 n v x1 x2 x3 (x4 + 1))))
def f_X0_sentWithin (n0 : Nat) (v0 : DV) (p1 : Int32) (p2 : Int32) : Option (Int32) :=
    f_X0_sentWithin_L5 n0 v0 p1 p2 0 0
def f_X4_append (v0 : DV) (p1 : Int32) : Option (DV) :=
    (if 80 ≤ (v0 16 0) then
    some v0
    else
    ck (ixb (v0 16 0) 80) (
    some (vs (vs v0 15 (upd (v0 15) (Int32.toNatClampNeg (v0 16 0)) (vp_nar .char p1))) 16 (fun _ => ((v0 16 0) + 1)))))
def f_X4_next (v0 : DV) : Option (Int32) :=
    (if (v0 17 0) < 0 then
    some 0
    else
    (if (v0 16 0) ≤ (v0 17 0) then
    some 0
    else
    (if 80 ≤ (v0 17 0) then
    some 0
    else
    ck (ixb (v0 17 0) 80) (
    ck (okC ((v0 15) (Int32.toNatClampNeg (v0 17 0)))) (
    some ((v0 15) (Int32.toNatClampNeg (v0 17 0))))))))
def f_X4_isDigit (p0 : Int32) : Int32 :=
    (if p0 < 48 then
    0
    else
    (if 57 < p0 then
    0
    else
    1))
theorem oz_X4_isDigit (p0 : Int32) : okZ (f_X4_isDigit p0) = true := by
  unfold f_X4_isDigit
  (repeat' split) <;> rfl
def f_X4_readNumber (v0 : DV) : Option (Int32 × DV) :=
    bd1 (f_X4_next v0) (fun r1 =>
    (if (f_X4_isDigit r1) = 0 then
    some ((-6), v0)
    else
    bd1 (f_X4_next v0) (fun r14 =>
    (if (r14 - 48) ≤ 0 then
    some ((r14 - 48), (vs v0 17 (fun _ => ((v0 17 0) + 1))))
    else
    bd1 (f_X4_next (vs v0 17 (fun _ => ((v0 17 0) + 1)))) (fun r36 =>
    (if (f_X4_isDigit r36) = 0 then
    some ((r14 - 48), (vs v0 17 (fun _ => ((v0 17 0) + 1))))
    else
    bd1 (f_X4_next (vs v0 17 (fun _ => ((v0 17 0) + 1)))) (fun r50 =>
    some ((((10 * (r14 - 48)) + r50) - 48), (vs v0 17 (fun _ => (((v0 17 0) + 1) + 1)))))))))))
def f_X4_readFirst (v0 : DV) : Option (Int32 × DV) :=
    bd2 (f_X4_readNumber v0) (fun r2 v2 =>
    (if r2 < 0 then
    some (0, (vs v2 20 (fun _ => r2)))
    else
    some (1, (vs v2 20 (fun _ => r2)))))
def f_X4_readMood (v0 : DV) : Option (Int32 × DV) :=
    bd1 (f_X4_next v0) (fun r2 =>
    (if (f_X6_isMood (r2 - 48)) = 0 then
    some (0, (vs v0 19 (fun _ => (r2 - 48))))
    else
    some (1, (vs (vs v0 19 (fun _ => (r2 - 48))) 17 (fun _ => ((v0 17 0) + 1))))))
def f_X4_readSecond (v0 : DV) : Option (Int32 × DV) :=
    bd2 (f_X4_readNumber v0) (fun r2 v2 =>
    (if r2 < 0 then
    some (0, (vs v2 21 (fun _ => r2)))
    else
    some (1, (vs v2 21 (fun _ => r2)))))
def f_X4_take (v0 : DV) (p1 : Int32) : Option (Int32 × DV) :=
    bd1 (f_X4_next v0) (fun r1 =>
    (if r1 = p1 then
    some (1, (vs v0 17 (fun _ => ((v0 17 0) + 1))))
    else
    some (0, v0)))
def f_X4_readOrder (v0 : DV) : Option (Int32 × DV) :=
    bd1 (f_X4_next v0) (fun r2 =>
    bd2 (f_X4_take (vs (vs v0 18 (fun _ => r2)) 21 (fun _ => (-6))) 43) (fun r17 v17 =>
    (if r17 = 0 then
    bd2 (f_X4_take v17 107) (fun r71 v71 =>
    (if r71 = 0 then
    bd2 (f_X4_take v71 116) (fun r85 v85 =>
    (if r85 = 0 then
    bd2 (f_X4_take v85 98) (fun r94 v94 =>
    (if r94 = 0 then
    bd2 (f_X4_take v94 117) (fun r108 v108 =>
    (if r108 = 0 then
    some (0, v108)
    else
    bd2 (f_X4_readMood v108) (fun r115 v115 =>
    (if r115 = 0 then
    some (0, v115)
    else
    bd2 (f_X4_readFirst v115) (fun r122 v122 =>
    (if r122 = 0 then
    some (0, v122)
    else
    bd2 (f_X4_take v122 45) (fun r131 v131 =>
    (if r131 = 0 then
    some (0, v131)
    else
    bd2 (f_X4_readSecond v131) (fun r138 v138 =>
    (if r138 = 0 then
    some (0, v138)
    else
    some (1, v138)))))))))))
    else
    bd2 (f_X4_readFirst v94) (fun r101 v101 =>
    ck (okZ r101) (
    some (r101, v101)))))
    else
    bd2 (f_X4_readFirst v85) (fun r101 v101 =>
    ck (okZ r101) (
    some (r101, v101)))))
    else
    bd2 (f_X4_readMood v71) (fun r78 v78 =>
    ck (okZ r78) (
    some (r78, v78)))))
    else
    bd2 (f_X4_readMood v17) (fun r24 v24 =>
    (if r24 = 0 then
    some (0, v24)
    else
    bd2 (f_X4_take v24 58) (fun r33 v33 =>
    (if r33 = 0 then
    some (0, v33)
    else
    bd2 (f_X4_readFirst v33) (fun r40 v40 =>
    (if r40 = 0 then
    some (0, v40)
    else
    bd2 (f_X4_take v40 94) (fun r49 v49 =>
    (if r49 = 0 then
    some (1, v49)
    else
    bd2 (f_X4_readSecond v49) (fun r56 v56 =>
    (if r56 = 0 then
    some (0, v56)
    else
    some (1, v56))))))))))))))
def f_X4_faultIndex_L7 : Nat → DV → Int32 → Option (Int32 × DV)
  | 0, _, _ => none
  | n + 1, v, x1 =>
    (if 80 ≤ x1 then
    some ((v 17 0), v)
    else
    bd2 (f_X4_readOrder v) (fun r14 v14 =>
    (if r14 = 0 then
    some ((v14 17 0), v14)
    else
    (if (v14 17 0) < (v14 16 0) then
    bd2 (f_X4_take v14 59) (fun r42 v42 =>
    (if r42 = 0 then
    some ((v42 17 0), v42)
    else
    f_X4_faultIndex_L7 n v42 (x1 + 1)))
    else
    some ((-6), v14)))))
def f_X4_faultIndex (n0 : Nat) (v0 : DV) : Option (Int32 × DV) :=
    f_X4_faultIndex_L7 n0 (vs v0 17 (fun _ => 0)) 0
def f_X5_workOut_J123 (k37 : DV → Int32 → Int32 → Option (DV)) (n : Nat) (v : DV) (x2 : Int32) (x4 : Int32) (z0 : Int32) (z1 : Int32) : Option (DV) :=
    ck (ixb z1 30) (
    k37 (vs v 14 (upd (v 14) (Int32.toNatClampNeg z1) z0)) x2 (x4 + (-1)))
def f_X5_workOut_J82 (k37 : DV → Int32 → Int32 → Option (DV)) (n : Nat) (v : DV) (x2 : Int32) (x4 : Int32) : Option (DV) :=
    ck (ixb x4 30) (
    (if (f_X3_isLetter v ((v 10) (Int32.toNatClampNeg x4))) = 0 then
    k37 v x2 (x4 + (-1))
    else
    ck (ixb ((v 10) (Int32.toNatClampNeg x4)) 30) (
    ck (ixb x4 30) (
    f_X5_workOut_J123 k37 n v x2 x4 (if ((v 14) (Int32.toNatClampNeg ((v 10) (Int32.toNatClampNeg x4)))) < ((v 14) (Int32.toNatClampNeg x4)) then ((v 14) (Int32.toNatClampNeg x4)) else ((v 14) (Int32.toNatClampNeg ((v 10) (Int32.toNatClampNeg x4))))) ((v 10) (Int32.toNatClampNeg x4))))))
def f_X5_workOut_J59 (k37 : DV → Int32 → Int32 → Option (DV)) (n : Nat) (v : DV) (x2 : Int32) (x4 : Int32) : Option (DV) :=
    bd1 (f_X0_heatNow v x4) (fun r68 =>
    ck (ixb x4 30) (
    ck (ixb x4 30) (
    f_X5_workOut_J82 k37 n (vs v 14 (upd (v 14) (Int32.toNatClampNeg x4) (r68 + (((v 14) (Int32.toNatClampNeg x4)) / 2)))) x2 x4)))
def f_X5_workOut_L37 : Nat → DV → Int32 → Int32 → Option (DV)
  | 0, _, _, _ => none
  | n + 1, v, x2, x4 =>
    (if x4 < 0 then
    some v
    else
    ck (ixb x4 30) (
    (if ((v 11) (Int32.toNatClampNeg x4)) = 1 then
    f_X5_workOut_J59 (fun v x2 x4 => f_X5_workOut_L37 n v x2 x4) n v x2 x4
    else
    (if x4 = x2 then
    f_X5_workOut_J59 (fun v x2 x4 => f_X5_workOut_L37 n v x2 x4) n v x2 x4
    else
    f_X5_workOut_L37 n v x2 (x4 + (-1))))))
def f_X5_workOut_L8 : Nat → DV → Int32 → Int32 → Option (DV)
  | 0, _, _, _ => none
  | n + 1, v, x2, x4 =>
    (if 30 ≤ x4 then
    f_X5_workOut_L37 n v x2 ((v 1 0) - 1)
    else
    ck (ixb x4 30) (
    f_X5_workOut_L8 n (vs v 14 (upd (v 14) (Int32.toNatClampNeg x4) 0)) x2 (x4 + 1)))
def f_X5_workOut (n0 : Nat) (v0 : DV) (p2 : Int32) : Option (DV) :=
    f_X5_workOut_L8 n0 v0 p2 0
def f_X5_ofSent (n0 : Nat) (v0 : DV) (p2 : Int32) : Option (Int32 × DV) :=
    bd1 (f_X5_workOut n0 v0 (-6)) (fun v4 =>
    ck (ixb p2 30) (
    some (((v4 14) (Int32.toNatClampNeg p2)), v4)))
def f_X5_withSent (n0 : Nat) (v0 : DV) (p2 : Int32) (p3 : Int32) : Option (Int32 × DV) :=
    bd1 (f_X5_workOut n0 v0 p3) (fun v3 =>
    ck (ixb p2 30) (
    some (((v3 14) (Int32.toNatClampNeg p2)), v3)))
def f_X5_greatest_L15 : Nat → DV → Int32 → Int32 → Int32 → Option (Int32 × DV)
  | 0, _, _, _, _ => none
  | n + 1, v, x2, x3, x4 =>
    (if (v 1 0) ≤ x4 then
    some (x2, v)
    else
    ck (ixb x4 30) (
    (if ((v 11) (Int32.toNatClampNeg x4)) = 1 then
    ck (ixb x4 30) (
    (if ((v 14) (Int32.toNatClampNeg x4)) ≤ x3 then
    f_X5_greatest_L15 n v x2 x3 (x4 + 1)
    else
    ck (ixb x4 30) (
    f_X5_greatest_L15 n v x4 ((v 14) (Int32.toNatClampNeg x4)) (x4 + 1))))
    else
    f_X5_greatest_L15 n v x2 x3 (x4 + 1))))
def f_X5_greatest (n0 : Nat) (v0 : DV) : Option (Int32 × DV) :=
    bd1 (f_X5_workOut n0 v0 (-6)) (fun v4 =>
    f_X5_greatest_L15 n0 v4 (-6) (-1) 0)
def f_X6_ofLetter (n0 : Nat) (v0 : DV) (p1 : Int32) (p2 : Int32) : Option (Int32 × DV) :=
    (if (f_X3_isLetter v0 p1) = 0 then
    some ((-1), v0)
    else
    (if p2 = 0 then
    ck (ixb p1 30) (
    some (((v0 7) (Int32.toNatClampNeg p1)), v0))
    else
    (if p2 = 1 then
    ck (ixb p1 30) (
    some (((v0 8) (Int32.toNatClampNeg p1)), v0))
    else
    (if p2 = 2 then
    bd1 (f_X0_heatNow v0 p1) (fun r91 =>
    some (r91, v0))
    else
    (if p2 = 3 then
    ck (ixb p1 30) (
    some (((v0 9) (Int32.toNatClampNeg p1)), v0))
    else
    (if p2 = 4 then
    ck (ixb p1 30) (
    some (((v0 11) (Int32.toNatClampNeg p1)), v0))
    else
    (if p2 = 5 then
    ck (ixb p1 30) (
    some (((v0 12) (Int32.toNatClampNeg p1)), v0))
    else
    (if p2 = 6 then
    ck (ixb p1 30) (
    some (((v0 10) (Int32.toNatClampNeg p1)), v0))
    else
    (if p2 = 7 then
    bd2 (f_X5_ofSent n0 v0 p1) (fun r132 v132 =>
    some (r132, (mx [0, 1, 2, 3, 4, 5, 6, 7, 8, 9, 10, 11, 12, 13, 14] v0 v132)))
    else
    (if p2 = 8 then
    bd1 (f_X3_answersTo n0 v0 p1) (fun r138 =>
    some (r138, v0))
    else
    (if p2 = 9 then
    bd1 (f_X3_depthOf n0 v0 p1) (fun r144 =>
    some (r144, v0))
    else
    some ((-2), v0))))))))))))
def f_X6_ofDrawer (n0 : Nat) (v0 : DV) (p1 : Int32) (p2 : Int32) : Option (Int32) :=
    (if (f_X6_isMood p1) = 0 then
    some (-1)
    else
    (if p2 = 0 then
    bd1 (f_X3_ofMood n0 v0 p1 0) (fun r73 =>
    some r73)
    else
    (if p2 = 1 then
    ck (ixb p1 6) (
    some ((v0 4) (Int32.toNatClampNeg p1)))
    else
    (if p2 = 2 then
    ck (ixb p1 6) (
    some ((v0 3) (Int32.toNatClampNeg p1)))
    else
    (if p2 = 3 then
    ck (ixb p1 6) (
    some ((v0 5) (Int32.toNatClampNeg p1)))
    else
    (if p2 = 4 then
    ck (ixb p1 6) (
    some ((v0 6) (Int32.toNatClampNeg p1)))
    else
    (if p2 = 5 then
    bd1 (f_X0_heatInDrawer n0 v0 p1) (fun r110 =>
    some r110)
    else
    (if p2 = 6 then
    bd1 (f_X3_ofMood n0 v0 p1 1) (fun r123 =>
    some r123)
    else
    (if p2 = 7 then
    bd1 (f_X3_ofMood n0 v0 p1 2) (fun r136 =>
    some r136)
    else
    some (-2))))))))))
def f_X6_letters (n0 : Nat) (v0 : DV) (p1 : Int32) : Option (Int64) :=
    (if p1 = 0 then
    bd1 (f_X3_setOf n0 v0 0) (fun r40 =>
    some r40)
    else
    (if p1 = 1 then
    bd1 (f_X3_setOf n0 v0 1) (fun r52 =>
    some r52)
    else
    (if p1 = 2 then
    bd1 (f_X3_setOf n0 v0 2) (fun r64 =>
    some r64)
    else
    (if p1 = 3 then
    bd1 (f_X0_setThatWouldGo n0 v0) (fun r72 =>
    some r72)
    else
    some (-2)))))
def f_X6_count (n0 : Nat) (v0 : DV) (p1 : Int32) : Option (Int32) :=
    (if p1 = 0 then
    some (f_X0_today v0)
    else
    (if p1 = 1 then
    some (f_X0_hourOfDay v0)
    else
    (if p1 = 2 then
    some (v0 1 0)
    else
    (if p1 = 3 then
    bd1 (f_X3_setOf n0 v0 0) (fun r99 =>
    some (f_J13_bitCount_95d88 r99))
    else
    (if p1 = 4 then
    bd1 (f_X3_setOf n0 v0 1) (fun r114 =>
    some (f_J13_bitCount_95d88 r114))
    else
    (if p1 = 5 then
    bd1 (f_X3_setOf n0 v0 2) (fun r129 =>
    some (f_J13_bitCount_95d88 r129))
    else
    (if p1 = 6 then
    bd1 (f_X1_howManyLocked n0 v0) (fun r143 =>
    some r143)
    else
    (if p1 = 7 then
    some ((v0 2) (Int32.toNatClampNeg 0))
    else
    (if p1 = 8 then
    some ((v0 2) (Int32.toNatClampNeg 1))
    else
    (if p1 = 9 then
    some ((v0 2) (Int32.toNatClampNeg 2))
    else
    (if p1 = 10 then
    some (v0 16 0)
    else
    (if p1 = 11 then
    some (v0 22 0)
    else
    some (-2)))))))))))))
def f_X6_meanHeat (n0 : Nat) (v0 : DV) : Option (Int64) :=
    bd1 (f_X3_setOf n0 v0 1) (fun r8 =>
    (if (f_J13_bitCount_95d88 r8) = 0 then
    some 0
    else
    bd1 (f_X3_heatOfSent n0 v0) (fun r28 =>
    ck (nn64 (FP.ddiv (FP.i2d r28) (FP.i2d (f_J13_bitCount_95d88 r8)))) (
    bd1 (f_X6_bitsOf n0 (FP.ddiv (FP.i2d r28) (FP.i2d (f_J13_bitCount_95d88 r8))) 1023 52) (fun r40 =>
    some r40)))))
def f_X6_share (n0 : Nat) (v0 : DV) : Option (Int32) :=
    (if (v0 1 0) = 0 then
    some (-6)
    else
    bd1 (f_X3_setOf n0 v0 1) (fun r26 =>
    ck (nn32 (FP.fdiv (FP.i2f (f_J13_bitCount_95d88 r26)) (FP.i2f (v0 1 0)))) (
    ck (nn64 (FP.f2d (FP.fdiv (FP.i2f (f_J13_bitCount_95d88 r26)) (FP.i2f (v0 1 0))))) (
    bd1 (f_X6_bitsOf n0 (FP.f2d (FP.fdiv (FP.i2f (f_J13_bitCount_95d88 r26)) (FP.i2f (v0 1 0)))) 127 23) (fun r45 =>
    some (Int64.toInt32 r45))))))
def f_X6_goesIn (n0 : Nat) (v0 : DV) (p1 : Int32) : Option (Int32) :=
    (if (f_X3_isLetter v0 p1) = 0 then
    some (-1)
    else
    ck (ixb p1 30) (
    (if ((v0 11) (Int32.toNatClampNeg p1)) = 2 then
    some (-5)
    else
    ck (ixb p1 30) (
    (if ((v0 11) (Int32.toNatClampNeg p1)) = 1 then
    some 0
    else
    bd1 (f_X0_hoursTillSent n0 v0 p1 ((v0 2) (Int32.toNatClampNeg 0)) 1200) (fun r60 =>
    some r60))))))
def f_X6_bestPost_L31 : Nat → DV → Int32 → Int32 → Int32 → Int32 → Int32 → Option (Int32)
  | 0, _, _, _, _, _, _ => none
  | n + 1, v, x1, x2, x3, x4, x5 =>
    (if 24 ≤ x5 then
    (if x2 = 0 then
    some x3
    else
    some x4)
    else
    bd1 (f_X0_sentWithin n v x5 (x1 * 24)) (fun r48 =>
    (if r48 ≤ x4 then
    f_X6_bestPost_L31 n v x1 x2 x3 x4 (x5 + 1)
    else
    f_X6_bestPost_L31 n v x1 x2 x5 r48 (x5 + 1))))
def f_X6_bestPost (n0 : Nat) (v0 : DV) (p1 : Int32) (p2 : Int32) : Option (Int32) :=
    (if p1 < 1 then
    some (-2)
    else
    (if 20 < p1 then
    some (-2)
    else
    (if p2 < 0 then
    some (-2)
    else
    (if p2 ≤ 1 then
    f_X6_bestPost_L31 n0 v0 p1 p2 0 0 0
    else
    some (-2)))))
def f_X6_mostRegretted (n0 : Nat) (v0 : DV) : Option (Int32 × DV) :=
    bd2 (f_X5_greatest n0 v0) (fun r8 v8 =>
    some (r8, (mx [0, 1, 2, 3, 4, 5, 6, 7, 8, 9, 10, 11, 12, 13, 14] v0 v8)))
def f_X6_ifSent (n0 : Nat) (v0 : DV) (p1 : Int32) (p2 : Int32) : Option (Int32 × DV) :=
    (if (f_X3_isLetter v0 p1) = 0 then
    some ((-1), v0)
    else
    (if (f_X3_isLetter v0 p2) = 0 then
    some ((-1), v0)
    else
    ck (ixb p1 30) (
    (if ((v0 11) (Int32.toNatClampNeg p1)) = 1 then
    ck (ixb p2 30) (
    (if ((v0 11) (Int32.toNatClampNeg p2)) = 0 then
    bd2 (f_X5_withSent n0 v0 p1 p2) (fun r58 v58 =>
    some (r58, (mx [0, 1, 2, 3, 4, 5, 6, 7, 8, 9, 10, 11, 12, 13, 14] v0 v58)))
    else
    some ((-5), v0)))
    else
    some ((-5), v0)))))
def f_X6_put_L34 : Nat → DV → Int64 → Int32 → Option (Int32 × DV)
  | 0, _, _, _ => none
  | n + 1, v, x1, x4 =>
    (if x4 < 0 then
    some ((v 16 0), v)
    else
    bd1 (f_X4_append v (UInt32.toInt32 (Int32.toUInt32 (Int64.toInt32 ((UInt64.toInt64 (Int64.toUInt64 x1 >>> (Int64.toUInt64 (Int32.toInt64 (8 * x4)) &&& Int64.toUInt64 63))) &&& 255)) % 65536))) (fun v56 =>
    f_X6_put_L34 n (mx [15, 16, 17, 18, 19, 20, 21] v v56) x1 (x4 + (-1))))
def f_X6_put (n0 : Nat) (v0 : DV) (p1 : Int64) : Option (Int32 × DV) :=
    bd1 (f_X6_charactersIn n0 p1) (fun r1 =>
    (if r1 = 0 then
    some ((-2), v0)
    else
    (if ((v0 16 0) + r1) ≤ 80 then
    f_X6_put_L34 n0 v0 p1 (r1 - 1)
    else
    some ((-4), v0))))
def f_X6_wipe (v0 : DV) : Option (Int32 × DV) :=
    some ((v0 16 0), (vs v0 16 (fun _ => 0)))
def f_X6_fault (n0 : Nat) (v0 : DV) : Option (Int32 × DV) :=
    bd2 (f_X4_faultIndex n0 v0) (fun r4 v4 =>
    some (r4, (mx [15, 16, 17, 18, 19, 20, 21] v0 v4)))
def f_X6_carryOutOrder (n0 : Nat) (v0 : DV) : Option (Int32 × DV) :=
    (if (v0 18 0) = 43 then
    bd2 (f_X0_writeLetter n0 v0 (v0 19 0) (v0 20 0) (v0 21 0)) (fun r73 v73 =>
    some (r73, (mx [0, 1, 2, 3, 4, 5, 6, 7, 8, 9, 10, 11, 12, 13] v0 v73)))
    else
    (if (v0 18 0) = 98 then
    bd2 (f_X0_burnLetter v0 (v0 20 0)) (fun r118 v118 =>
    some (r118, (mx [0, 1, 2, 3, 4, 5, 6, 7, 8, 9, 10, 11, 12, 13] v0 v118)))
    else
    (if (v0 18 0) = 107 then
    bd2 (f_X0_turnKey v0 (v0 19 0)) (fun r88 v88 =>
    some (r88, (mx [0, 1, 2, 3, 4, 5, 6, 7, 8, 9, 10, 11, 12, 13] v0 v88)))
    else
    (if (v0 18 0) = 116 then
    bd2 (f_X0_passHours n0 v0 (v0 20 0)) (fun r103 v103 =>
    some (r103, (mx [0, 1, 2, 3, 4, 5, 6, 7, 8, 9, 10, 11, 12, 13] v0 v103)))
    else
    bd2 (f_X0_changeHours v0 (v0 19 0) (v0 20 0) (v0 21 0)) (fun r147 v147 =>
    some (r147, (mx [0, 1, 2, 3, 4, 5, 6, 7, 8, 9, 10, 11, 12, 13] v0 v147)))))))
def f_X6_carryOutOrders_L10 : Nat → DV → Int32 → Option (Int32 × DV)
  | 0, _, _ => none
  | n + 1, v, x1 =>
    (if 80 ≤ x1 then
    some (80, v)
    else
    bd2 (f_X4_readOrder v) (fun r20 v20 =>
    (if r20 = 0 then
    some (x1, (mx [15, 16, 17, 18, 19, 20, 21] v v20))
    else
    bd2 (f_X6_carryOutOrder n (mx [15, 16, 17, 18, 19, 20, 21] v v20)) (fun r27 v27 =>
    (if 0 ≤ r27 then
    bd2 (f_X4_take v27 59) (fun r41 v41 =>
    (if r41 = 0 then
    some ((x1 + 1), (mx [15, 16, 17, 18, 19, 20, 21] v27 v41))
    else
    f_X6_carryOutOrders_L10 n (mx [15, 16, 17, 18, 19, 20, 21] v27 v41) (x1 + 1)))
    else
    some (x1, v27))))))
def f_X6_carryOutOrders (n0 : Nat) (v0 : DV) : Option (Int32 × DV) :=
    f_X6_carryOutOrders_L10 n0 (vs v0 17 (fun _ => 0)) 0
def f_X7_in (p0 : Int32) (p1 : Int32) (p2 : Int32) : Int32 :=
    (if p0 < p1 then
    0
    else
    (if p2 < p0 then
    0
    else
    1))
theorem oz_X7_in (p0 : Int32) (p1 : Int32) (p2 : Int32) : okZ (f_X7_in p0 p1 p2) = true := by
  unfold f_X7_in
  (repeat' split) <;> rfl
def f_X7_ofD (p0 : Int32) (p1 : Int32) : Int32 :=
    ((6 + (4 * p0)) + p1)
def f_X7_ofL (p0 : Int32) (p1 : Int32) : Int32 :=
    ((30 + (7 * p0)) + p1)
def f_X7_isMood (p0 : Int32) : Int32 :=
    (f_X7_in p0 0 5)
theorem oz_X7_isMood (p0 : Int32) : okZ (f_X7_isMood p0) = true := by
  unfold f_X7_isMood
  exact (oz_X7_in p0 0 5)
def f_X7_isLetter (v0 : DV) (p1 : Int32) : Option (Int32) :=
    some (f_X7_in p1 0 (((v0 0) (Int32.toNatClampNeg 5)) - 1))
def f_X7_know_L52 : Nat → DV → Int32 → Option (DV)
  | 0, _, _ => none
  | n + 1, v, x1 =>
    (if 240 ≤ x1 then
    some (vs v 8 (fun _ => ((v 8 0) + 1)))
    else
    ck (ixb x1 240) (
    ck (ixb ((240 * (v 8 0)) + x1) 1440) (
    lt (vs v 2 (upd (v 2) (Int32.toNatClampNeg ((240 * (v 8 0)) + x1)) ((v 0) (Int32.toNatClampNeg x1)))) (fun v79 =>
    f_X7_know_L52 n v79 (x1 + 1)))))
def f_X7_know_L11 : Nat → DV → Int32 → Option (DV)
  | 0, _, _ => none
  | n + 1, v, x1 =>
    (if 1200 ≤ x1 then
    f_X7_know_L52 n (vs v 8 (fun _ => ((v 8 0) - 1))) 0
    else
    ck (ixb (240 + x1) 1440) (
    ck (ixb x1 1440) (
    lt (vs v 2 (upd (v 2) (Int32.toNatClampNeg x1) ((v 2) (Int32.toNatClampNeg (240 + x1))))) (fun v33 =>
    f_X7_know_L11 n v33 (x1 + 1)))))
def f_X7_know (n0 : Nat) (v0 : DV) : Option (DV) :=
    (if (v0 8 0) = 6 then
    f_X7_know_L11 n0 v0 0
    else
    f_X7_know_L52 n0 v0 0)
def f_X7_putAside_L2 : Nat → DV → Int32 → Option (DV)
  | 0, _, _ => none
  | n + 1, v, x1 =>
    (if 240 ≤ x1 then
    some v
    else
    ck (ixb x1 240) (
    ck (ixb x1 240) (
    lt (vs v 1 (upd (v 1) (Int32.toNatClampNeg x1) ((v 0) (Int32.toNatClampNeg x1)))) (fun v20 =>
    f_X7_putAside_L2 n v20 (x1 + 1)))))
def f_X7_putAside (n0 : Nat) (v0 : DV) : Option (DV) :=
    f_X7_putAside_L2 n0 v0 0
def f_X7_putBack_L2 : Nat → DV → Int32 → Option (DV)
  | 0, _, _ => none
  | n + 1, v, x1 =>
    (if 240 ≤ x1 then
    some v
    else
    ck (ixb x1 240) (
    ck (ixb x1 240) (
    lt (vs v 0 (upd (v 0) (Int32.toNatClampNeg x1) ((v 1) (Int32.toNatClampNeg x1)))) (fun v20 =>
    f_X7_putBack_L2 n v20 (x1 + 1)))))
def f_X7_putBack (n0 : Nat) (v0 : DV) : Option (DV) :=
    f_X7_putBack_L2 n0 v0 0
def f_X7_heat (v0 : DV) (p1 : Int32) : Option (Int32) :=
    ck (ixb (f_X7_ofL p1 3) 240) (
    (if ((v0 0) (Int32.toNatClampNeg (f_X7_ofL p1 3))) = 1 then
    ck (ixb (f_X7_ofL p1 6) 240) (
    some ((v0 0) (Int32.toNatClampNeg (f_X7_ofL p1 6))))
    else
    ck (ixb (f_X7_ofL p1 1) 240) (
    ck (ixb (f_X7_ofL p1 2) 240) (
    (if 0 ≤ (((v0 0) (Int32.toNatClampNeg (f_X7_ofL p1 1))) - (((v0 0) (Int32.toNatClampNeg 2)) * (((v0 0) (Int32.toNatClampNeg 3)) - ((v0 0) (Int32.toNatClampNeg (f_X7_ofL p1 2)))))) then
    some (((v0 0) (Int32.toNatClampNeg (f_X7_ofL p1 1))) - (((v0 0) (Int32.toNatClampNeg 2)) * (((v0 0) (Int32.toNatClampNeg 3)) - ((v0 0) (Int32.toNatClampNeg (f_X7_ofL p1 2))))))
    else
    some 0)))))
def f_X7_many_L5 : Nat → DV → Int32 → Int32 → Int32 → Int32 → Option (Int32)
  | 0, _, _, _, _, _ => none
  | n + 1, v, x1, x2, x3, x4 =>
    (if ((v 0) (Int32.toNatClampNeg 5)) ≤ x4 then
    some x3
    else
    ck (ixb (f_X7_ofL x4 3) 240) (
    (if ((v 0) (Int32.toNatClampNeg (f_X7_ofL x4 3))) = x2 then
    (if x1 = 6 then
    f_X7_many_L5 n v x1 x2 (x3 + 1) (x4 + 1)
    else
    ck (ixb (f_X7_ofL x4 0) 240) (
    (if ((v 0) (Int32.toNatClampNeg (f_X7_ofL x4 0))) = x1 then
    f_X7_many_L5 n v x1 x2 (x3 + 1) (x4 + 1)
    else
    f_X7_many_L5 n v x1 x2 (x3 + 0) (x4 + 1))))
    else
    f_X7_many_L5 n v x1 x2 (x3 + 0) (x4 + 1))))
def f_X7_many (n0 : Nat) (v0 : DV) (p1 : Int32) (p2 : Int32) : Option (Int32) :=
    f_X7_many_L5 n0 v0 p1 p2 0 0
def f_X7_wouldGo_J42 (v : DV) (x1 : Int32) (x2 : Int32) (z0 : Int32) : Option (Int32) :=
    (if z0 = 0 then
    some 0
    else
    ck (ixb (f_X7_ofL x1 2) 240) (
    ck (ixb (f_X7_ofD x2 1) 240) (
    (if (((v 0) (Int32.toNatClampNeg 3)) - ((v 0) (Int32.toNatClampNeg (f_X7_ofL x1 2)))) < ((v 0) (Int32.toNatClampNeg (f_X7_ofD x2 1))) then
    some 0
    else
    bd1 (f_X7_heat v x1) (fun r79 =>
    (if ((v 0) (Int32.toNatClampNeg 1)) < r79 then
    some 0
    else
    some 1))))))
def f_X7_wouldGo_J41 (v : DV) (x1 : Int32) (x2 : Int32) : Option (Int32) :=
    f_X7_wouldGo_J42 v x1 x2 0
def f_X7_wouldGo (v0 : DV) (p1 : Int32) : Option (Int32) :=
    ck (ixb (f_X7_ofL p1 0) 240) (
    ck (ixb (f_X7_ofL p1 3) 240) (
    (if ((v0 0) (Int32.toNatClampNeg (f_X7_ofL p1 3))) = 0 then
    ck (ixb (f_X7_ofD ((v0 0) (Int32.toNatClampNeg (f_X7_ofL p1 0))) 0) 240) (
    (if ((v0 0) (Int32.toNatClampNeg (f_X7_ofD ((v0 0) (Int32.toNatClampNeg (f_X7_ofL p1 0))) 0))) = 0 then
    f_X7_wouldGo_J42 v0 p1 ((v0 0) (Int32.toNatClampNeg (f_X7_ofL p1 0))) 1
    else
    f_X7_wouldGo_J41 v0 p1 ((v0 0) (Int32.toNatClampNeg (f_X7_ofL p1 0)))))
    else
    f_X7_wouldGo_J41 v0 p1 ((v0 0) (Int32.toNatClampNeg (f_X7_ofL p1 0))))))
def f_X7_hour_J164 (n : Nat) (v : DV) : Option (DV) :=
    lt (vs v 0 (upd (v 0) (Int32.toNatClampNeg 4) (((v 0) (Int32.toNatClampNeg 4)) + 1))) (fun v173 =>
    (if ((v173 0) (Int32.toNatClampNeg 4)) = 24 then
    lt (vs v173 0 (upd (v173 0) (Int32.toNatClampNeg 4) 0)) (fun v191 =>
    lt (vs v191 0 (upd (v191 0) (Int32.toNatClampNeg 3) (((v191 0) (Int32.toNatClampNeg 3)) + 1))) (fun v201 =>
    some v201))
    else
    some v173))
def f_X7_hour_L82 : Nat → DV → Int32 → Option (DV)
  | 0, _, _ => none
  | n + 1, v, x1 =>
    (if ((v 0) (Int32.toNatClampNeg 5)) ≤ x1 then
    f_X7_hour_J164 n v
    else
    (if ((v 0) (Int32.toNatClampNeg 4)) = ((v 0) (Int32.toNatClampNeg 0)) then
    bd1 (f_X7_wouldGo v x1) (fun r109 =>
    (if r109 = 0 then
    f_X7_hour_L82 n v (x1 + 1)
    else
    bd1 (f_X7_heat v x1) (fun r127 =>
    ck (ixb (f_X7_ofL x1 6) 240) (
    lt (vs v 0 (upd (v 0) (Int32.toNatClampNeg (f_X7_ofL x1 6)) r127)) (fun v130 =>
    ck (ixb (f_X7_ofL x1 4) 240) (
    lt (vs v130 0 (upd (v130 0) (Int32.toNatClampNeg (f_X7_ofL x1 4)) ((v130 0) (Int32.toNatClampNeg 3)))) (fun v146 =>
    ck (ixb (f_X7_ofL x1 3) 240) (
    lt (vs v146 0 (upd (v146 0) (Int32.toNatClampNeg (f_X7_ofL x1 3)) 1)) (fun v157 =>
    f_X7_hour_L82 n v157 (x1 + 1))))))))))
    else
    f_X7_hour_J164 n v))
def f_X7_hour_L2 : Nat → DV → Int32 → Option (DV)
  | 0, _, _ => none
  | n + 1, v, x1 =>
    (if 6 ≤ x1 then
    f_X7_hour_L82 n v 0
    else
    ck (ixb (f_X7_ofD x1 2) 240) (
    (if ((v 0) (Int32.toNatClampNeg (f_X7_ofD x1 2))) = ((v 0) (Int32.toNatClampNeg 4)) then
    ck (ixb (f_X7_ofD x1 0) 240) (
    lt (vs v 0 (upd (v 0) (Int32.toNatClampNeg (f_X7_ofD x1 0)) 0)) (fun v73 =>
    f_X7_hour_L2 n v73 (x1 + 1)))
    else
    ck (ixb (f_X7_ofD x1 3) 240) (
    (if ((v 0) (Int32.toNatClampNeg (f_X7_ofD x1 3))) = ((v 0) (Int32.toNatClampNeg 4)) then
    ck (ixb (f_X7_ofD x1 0) 240) (
    lt (vs v 0 (upd (v 0) (Int32.toNatClampNeg (f_X7_ofD x1 0)) 1)) (fun v73 =>
    f_X7_hour_L2 n v73 (x1 + 1)))
    else
    ck (ixb (f_X7_ofD x1 0) 240) (
    ck (ixb (f_X7_ofD x1 0) 240) (
    lt (vs v 0 (upd (v 0) (Int32.toNatClampNeg (f_X7_ofD x1 0)) ((v 0) (Int32.toNatClampNeg (f_X7_ofD x1 0))))) (fun v73 =>
    f_X7_hour_L2 n v73 (x1 + 1)))))))))
def f_X7_hour (n0 : Nat) (v0 : DV) : Option (DV) :=
    f_X7_hour_L2 n0 v0 0
def f_X7_findRegrets_J78 (k37 : DV → Int32 → Option (DV)) (n : Nat) (v : DV) (x1 : Int32) (z0 : Int32) (z1 : Int32) : Option (DV) :=
    ck (ixb z1 30) (
    lt (vs v 6 (upd (v 6) (Int32.toNatClampNeg z1) z0)) (fun v78 =>
    ck (ixb (f_X7_ofL x1 5) 240) (
    (if ((v78 0) (Int32.toNatClampNeg (f_X7_ofL x1 5))) = (-6) then
    k37 v78 (x1 + (-1))
    else
    ck (ixb x1 30) (
    ck (ixb ((v78 0) (Int32.toNatClampNeg (f_X7_ofL x1 5))) 30) (
    (if ((v78 6) (Int32.toNatClampNeg x1)) ≤ ((v78 7) (Int32.toNatClampNeg ((v78 0) (Int32.toNatClampNeg (f_X7_ofL x1 5))))) then
    ck (ixb ((v78 0) (Int32.toNatClampNeg (f_X7_ofL x1 5))) 30) (
    ck (ixb ((v78 0) (Int32.toNatClampNeg (f_X7_ofL x1 5))) 30) (
    lt (vs v78 7 (upd (v78 7) (Int32.toNatClampNeg ((v78 0) (Int32.toNatClampNeg (f_X7_ofL x1 5)))) ((v78 7) (Int32.toNatClampNeg ((v78 0) (Int32.toNatClampNeg (f_X7_ofL x1 5))))))) (fun v131 =>
    k37 v131 (x1 + (-1)))))
    else
    ck (ixb x1 30) (
    ck (ixb ((v78 0) (Int32.toNatClampNeg (f_X7_ofL x1 5))) 30) (
    lt (vs v78 7 (upd (v78 7) (Int32.toNatClampNeg ((v78 0) (Int32.toNatClampNeg (f_X7_ofL x1 5)))) ((v78 6) (Int32.toNatClampNeg x1)))) (fun v131 =>
    k37 v131 (x1 + (-1))))))))))))
def f_X7_findRegrets_L37 : Nat → DV → Int32 → Option (DV)
  | 0, _, _ => none
  | n + 1, v, x1 =>
    (if x1 < 0 then
    some v
    else
    ck (ixb (f_X7_ofL x1 3) 240) (
    (if ((v 0) (Int32.toNatClampNeg (f_X7_ofL x1 3))) = 1 then
    bd1 (f_X7_heat v x1) (fun r62 =>
    ck (ixb x1 30) (
    f_X7_findRegrets_J78 (fun v x1 => f_X7_findRegrets_L37 n v x1) n v x1 (r62 + (((v 7) (Int32.toNatClampNeg x1)) / 2)) x1))
    else
    f_X7_findRegrets_J78 (fun v x1 => f_X7_findRegrets_L37 n v x1) n v x1 0 x1)))
def f_X7_findRegrets_L2 : Nat → DV → Int32 → Option (DV)
  | 0, _, _ => none
  | n + 1, v, x1 =>
    (if 30 ≤ x1 then
    f_X7_findRegrets_L37 n v (((v 0) (Int32.toNatClampNeg 5)) - 1)
    else
    ck (ixb x1 30) (
    lt (vs v 7 (upd (v 7) (Int32.toNatClampNeg x1) 0)) (fun v14 =>
    ck (ixb x1 30) (
    lt (vs v14 6 (upd (v14 6) (Int32.toNatClampNeg x1) 0)) (fun v21 =>
    f_X7_findRegrets_L2 n v21 (x1 + 1))))))
def f_X7_findRegrets (n0 : Nat) (v0 : DV) : Option (DV) :=
    f_X7_findRegrets_L2 n0 v0 0
def f_X7_writeFault_J23 (n : Nat) (v : DV) (x1 : Int32) (x2 : Int32) (x3 : Int32) : Option (Int32) :=
    (if (f_X7_in x2 0 99) = 0 then
    some (-2)
    else
    (if ((v 0) (Int32.toNatClampNeg 5)) = 30 then
    some (-4)
    else
    bd1 (f_X7_many n v x1 0) (fun r50 =>
    (if r50 = 8 then
    some (-4)
    else
    (if x3 = (-6) then
    some 0
    else
    ck (ixb (f_X7_ofL x3 3) 240) (
    (if ((v 0) (Int32.toNatClampNeg (f_X7_ofL x3 3))) = 1 then
    some 0
    else
    some (-5))))))))
def f_X7_writeFault (n0 : Nat) (v0 : DV) (p1 : Int32) (p2 : Int32) (p3 : Int32) : Option (Int32) :=
    (if (f_X7_isMood p1) = 0 then
    some (-1)
    else
    (if p3 = (-6) then
    f_X7_writeFault_J23 n0 v0 p1 p2 p3
    else
    bd1 (f_X7_isLetter v0 p3) (fun r15 =>
    (if r15 = 0 then
    some (-1)
    else
    f_X7_writeFault_J23 n0 v0 p1 p2 p3))))
def f_X7_writes (v0 : DV) (p1 : Int32) (p2 : Int32) (p3 : Int32) : Option (Int32 × DV) :=
    ck (ixb (f_X7_ofL ((v0 0) (Int32.toNatClampNeg 5)) 0) 240) (
    lt (vs v0 0 (upd (v0 0) (Int32.toNatClampNeg (f_X7_ofL ((v0 0) (Int32.toNatClampNeg 5)) 0)) p1)) (fun v19 =>
    ck (ixb (f_X7_ofL ((v0 0) (Int32.toNatClampNeg 5)) 1) 240) (
    lt (vs v19 0 (upd (v19 0) (Int32.toNatClampNeg (f_X7_ofL ((v0 0) (Int32.toNatClampNeg 5)) 1)) p2)) (fun v31 =>
    ck (ixb (f_X7_ofL ((v0 0) (Int32.toNatClampNeg 5)) 2) 240) (
    lt (vs v31 0 (upd (v31 0) (Int32.toNatClampNeg (f_X7_ofL ((v0 0) (Int32.toNatClampNeg 5)) 2)) ((v31 0) (Int32.toNatClampNeg 3)))) (fun v48 =>
    ck (ixb (f_X7_ofL ((v0 0) (Int32.toNatClampNeg 5)) 3) 240) (
    lt (vs v48 0 (upd (v48 0) (Int32.toNatClampNeg (f_X7_ofL ((v0 0) (Int32.toNatClampNeg 5)) 3)) 0)) (fun v60 =>
    ck (ixb (f_X7_ofL ((v0 0) (Int32.toNatClampNeg 5)) 4) 240) (
    lt (vs v60 0 (upd (v60 0) (Int32.toNatClampNeg (f_X7_ofL ((v0 0) (Int32.toNatClampNeg 5)) 4)) (-6))) (fun v73 =>
    ck (ixb (f_X7_ofL ((v0 0) (Int32.toNatClampNeg 5)) 5) 240) (
    lt (vs v73 0 (upd (v73 0) (Int32.toNatClampNeg (f_X7_ofL ((v0 0) (Int32.toNatClampNeg 5)) 5)) p3)) (fun v85 =>
    ck (ixb (f_X7_ofL ((v0 0) (Int32.toNatClampNeg 5)) 6) 240) (
    lt (vs v85 0 (upd (v85 0) (Int32.toNatClampNeg (f_X7_ofL ((v0 0) (Int32.toNatClampNeg 5)) 6)) 0)) (fun v98 =>
    lt (vs v98 0 (upd (v98 0) (Int32.toNatClampNeg 5) (((v98 0) (Int32.toNatClampNeg 5)) + 1))) (fun v108 =>
    some (((v0 0) (Int32.toNatClampNeg 5)), v108))))))))))))))))
def f_X7_turns (v0 : DV) (p1 : Int32) : Option (Int32 × DV) :=
    ck (ixb (f_X7_ofD p1 0) 240) (
    ck (ixb (f_X7_ofD p1 0) 240) (
    lt (vs v0 0 (upd (v0 0) (Int32.toNatClampNeg (f_X7_ofD p1 0)) (1 - ((v0 0) (Int32.toNatClampNeg (f_X7_ofD p1 0)))))) (fun v21 =>
    ck (ixb (f_X7_ofD p1 0) 240) (
    some (((v21 0) (Int32.toNatClampNeg (f_X7_ofD p1 0))), v21)))))
def f_X7_hoursFault (v0 : DV) (p1 : Int32) (p2 : Int32) (p3 : Int32) : Int32 :=
    (if (f_X7_isMood p1) = 0 then
    (-1)
    else
    (if p2 = (-6) then
    0
    else
    (if (f_X7_in p2 0 23) = 0 then
    (-2)
    else
    (if (f_X7_in p3 0 23) = 0 then
    (-2)
    else
    (if p2 = p3 then
    (-2)
    else
    0)))))
def f_X7_putsHours_J20 (v : DV) (x1 : Int32) (x2 : Int32) (x3 : Int32) (z0 : Int32) : Option (Int32 × DV) :=
    ck (ixb (f_X7_ofD x1 2) 240) (
    lt (vs v 0 (upd (v 0) (Int32.toNatClampNeg (f_X7_ofD x1 2)) x2)) (fun v32 =>
    (if x2 = (-6) then
    ck (ixb (f_X7_ofD x1 3) 240) (
    lt (vs v32 0 (upd (v32 0) (Int32.toNatClampNeg (f_X7_ofD x1 3)) (-6))) (fun v54 =>
    some (z0, v54)))
    else
    ck (ixb (f_X7_ofD x1 3) 240) (
    lt (vs v32 0 (upd (v32 0) (Int32.toNatClampNeg (f_X7_ofD x1 3)) x3)) (fun v54 =>
    some (z0, v54))))))
def f_X7_putsHours (v0 : DV) (p1 : Int32) (p2 : Int32) (p3 : Int32) : Option (Int32 × DV) :=
    ck (ixb (f_X7_ofD p1 2) 240) (
    (if ((v0 0) (Int32.toNatClampNeg (f_X7_ofD p1 2))) = (-6) then
    f_X7_putsHours_J20 v0 p1 p2 p3 0
    else
    f_X7_putsHours_J20 v0 p1 p2 p3 1))
def f_X7_burnFault (v0 : DV) (p1 : Int32) : Option (Int32) :=
    bd1 (f_X7_isLetter v0 p1) (fun r2 =>
    (if r2 = 0 then
    some (-1)
    else
    ck (ixb (f_X7_ofL p1 3) 240) (
    (if ((v0 0) (Int32.toNatClampNeg (f_X7_ofL p1 3))) = 0 then
    ck (ixb (f_X7_ofL p1 0) 240) (
    ck (ixb (f_X7_ofD ((v0 0) (Int32.toNatClampNeg (f_X7_ofL p1 0))) 0) 240) (
    (if ((v0 0) (Int32.toNatClampNeg (f_X7_ofD ((v0 0) (Int32.toNatClampNeg (f_X7_ofL p1 0))) 0))) = 1 then
    some (-5)
    else
    some 0)))
    else
    some (-5)))))
def f_X7_burns (v0 : DV) (p1 : Int32) : Option (Int32 × DV) :=
    ck (ixb (f_X7_ofL p1 3) 240) (
    lt (vs v0 0 (upd (v0 0) (Int32.toNatClampNeg (f_X7_ofL p1 3)) 2)) (fun v10 =>
    bd1 (f_X7_heat v10 p1) (fun r13 =>
    some (r13, v10))))
def f_X7_passFault (v0 : DV) (p1 : Int32) : Option (Int32) :=
    (if (f_X7_in p1 1 240) = 0 then
    some (-2)
    else
    (if (((v0 0) (Int32.toNatClampNeg 3)) + ((((v0 0) (Int32.toNatClampNeg 4)) + p1) / 24)) ≤ 999 then
    some 0
    else
    some (-5)))
def f_X7_passes_L10 : Nat → DV → Int32 → Int32 → Int32 → Option (Int32 × DV)
  | 0, _, _, _, _ => none
  | n + 1, v, x1, x2, x3 =>
    (if x1 ≤ x3 then
    bd1 (f_X7_many n v 6 1) (fun r29 =>
    some ((r29 - x2), v))
    else
    bd1 (f_X7_hour n v) (fun v16 =>
    f_X7_passes_L10 n v16 x1 x2 (x3 + 1)))
def f_X7_passes (n0 : Nat) (v0 : DV) (p1 : Int32) : Option (Int32 × DV) :=
    bd1 (f_X7_many n0 v0 6 1) (fun r4 =>
    f_X7_passes_L10 n0 v0 p1 r4 0)
def f_X7_set_J21 (n : Nat) (v : DV) (x1 : Int32) (x2 : Int32) (z0 : Int32) : Option (Int32 × DV) :=
    (if (f_X7_in x1 0 2) = 0 then
    some ((-2), v)
    else
    (if (f_X7_in x2 0 z0) = 0 then
    some ((-2), v)
    else
    bd1 (f_X7_know n v) (fun v44 =>
    ck (ixb (0 + x1) 240) (
    ck (ixb (0 + x1) 240) (
    lt (vs v44 0 (upd (v44 0) (Int32.toNatClampNeg (0 + x1)) x2)) (fun v65 =>
    some (((v44 0) (Int32.toNatClampNeg (0 + x1))), v65)))))))
def f_X7_set (n0 : Nat) (v0 : DV) (p1 : Int32) (p2 : Int32) : Option (Int32 × DV) :=
    (if p1 = 0 then
    f_X7_set_J21 n0 v0 p1 p2 23
    else
    (if p1 = 1 then
    f_X7_set_J21 n0 v0 p1 p2 99
    else
    f_X7_set_J21 n0 v0 p1 p2 20))
def f_X7_write (n0 : Nat) (v0 : DV) (p1 : Int32) (p2 : Int32) (p3 : Int32) : Option (Int32 × DV) :=
    bd1 (f_X7_writeFault n0 v0 p1 p2 p3) (fun r4 =>
    (if 0 ≤ r4 then
    bd1 (f_X7_know n0 v0) (fun v18 =>
    bd2 (f_X7_writes v18 p1 p2 p3) (fun r25 v25 =>
    some (r25, v25)))
    else
    some (r4, v0)))
def f_X7_turn (n0 : Nat) (v0 : DV) (p1 : Int32) : Option (Int32 × DV) :=
    (if (f_X7_isMood p1) = 0 then
    some ((-1), v0)
    else
    bd1 (f_X7_know n0 v0) (fun v10 =>
    bd2 (f_X7_turns v10 p1) (fun r15 v15 =>
    some (r15, v15))))
def f_X7_rest (n0 : Nat) (v0 : DV) (p1 : Int32) (p2 : Int32) : Option (Int32 × DV) :=
    (if (f_X7_isMood p1) = 0 then
    some ((-1), v0)
    else
    (if (f_X7_in p2 0 30) = 0 then
    some ((-2), v0)
    else
    bd1 (f_X7_know n0 v0) (fun v23 =>
    ck (ixb (f_X7_ofD p1 1) 240) (
    ck (ixb (f_X7_ofD p1 1) 240) (
    lt (vs v23 0 (upd (v23 0) (Int32.toNatClampNeg (f_X7_ofD p1 1)) p2)) (fun v47 =>
    some (((v23 0) (Int32.toNatClampNeg (f_X7_ofD p1 1))), v47)))))))
def f_X7_hours (n0 : Nat) (v0 : DV) (p1 : Int32) (p2 : Int32) (p3 : Int32) : Option (Int32 × DV) :=
    (if 0 ≤ (f_X7_hoursFault v0 p1 p2 p3) then
    bd1 (f_X7_know n0 v0) (fun v18 =>
    bd2 (f_X7_putsHours v18 p1 p2 p3) (fun r25 v25 =>
    some (r25, v25)))
    else
    some ((f_X7_hoursFault v0 p1 p2 p3), v0))
def f_X7_burn (n0 : Nat) (v0 : DV) (p1 : Int32) : Option (Int32 × DV) :=
    bd1 (f_X7_burnFault v0 p1) (fun r2 =>
    (if 0 ≤ r2 then
    bd1 (f_X7_know n0 v0) (fun v13 =>
    bd2 (f_X7_burns v13 p1) (fun r18 v18 =>
    some (r18, v18)))
    else
    some (r2, v0)))
def f_X7_pass (n0 : Nat) (v0 : DV) (p1 : Int32) : Option (Int32 × DV) :=
    bd1 (f_X7_passFault v0 p1) (fun r2 =>
    (if 0 ≤ r2 then
    bd1 (f_X7_know n0 v0) (fun v13 =>
    bd2 (f_X7_passes n0 v13 p1) (fun r18 v18 =>
    some (r18, v18)))
    else
    some (r2, v0)))
def f_X7_answering_L4 : Nat → DV → Int32 → Int32 → Int32 → Option (Int32)
  | 0, _, _, _, _ => none
  | n + 1, v, x1, x2, x3 =>
    (if ((v 0) (Int32.toNatClampNeg 5)) ≤ x3 then
    some x2
    else
    ck (ixb (f_X7_ofL x3 5) 240) (
    (if ((v 0) (Int32.toNatClampNeg (f_X7_ofL x3 5))) = x1 then
    f_X7_answering_L4 n v x1 (x2 + 1) (x3 + 1)
    else
    f_X7_answering_L4 n v x1 (x2 + 0) (x3 + 1))))
def f_X7_answering (n0 : Nat) (v0 : DV) (p1 : Int32) : Option (Int32) :=
    f_X7_answering_L4 n0 v0 p1 0 0
def f_X7_depth_L4 : Nat → DV → Int32 → Int32 → Option (Int32)
  | 0, _, _, _ => none
  | n + 1, v, x2, x3 =>
    ck (ixb (f_X7_ofL x3 5) 240) (
    (if ((v 0) (Int32.toNatClampNeg (f_X7_ofL x3 5))) = (-6) then
    some x2
    else
    ck (ixb (f_X7_ofL x3 5) 240) (
    f_X7_depth_L4 n v (x2 + 1) ((v 0) (Int32.toNatClampNeg (f_X7_ofL x3 5))))))
def f_X7_depth (n0 : Nat) (v0 : DV) (p1 : Int32) : Option (Int32) :=
    f_X7_depth_L4 n0 v0 0 p1
def f_X7_ofLetter (n0 : Nat) (v0 : DV) (p1 : Int32) (p2 : Int32) : Option (Int32 × DV) :=
    bd1 (f_X7_isLetter v0 p1) (fun r2 =>
    (if r2 = 0 then
    some ((-1), v0)
    else
    (if p2 = 0 then
    ck (ixb (f_X7_ofL p1 p2) 240) (
    some (((v0 0) (Int32.toNatClampNeg (f_X7_ofL p1 p2))), v0))
    else
    (if p2 = 1 then
    ck (ixb (f_X7_ofL p1 p2) 240) (
    some (((v0 0) (Int32.toNatClampNeg (f_X7_ofL p1 p2))), v0))
    else
    (if p2 = 2 then
    bd1 (f_X7_heat v0 p1) (fun r77 =>
    some (r77, v0))
    else
    (if p2 = 3 then
    ck (ixb (f_X7_ofL p1 ((2 + p2) - 3)) 240) (
    some (((v0 0) (Int32.toNatClampNeg (f_X7_ofL p1 ((2 + p2) - 3)))), v0))
    else
    (if p2 = 4 then
    ck (ixb (f_X7_ofL p1 ((2 + p2) - 3)) 240) (
    some (((v0 0) (Int32.toNatClampNeg (f_X7_ofL p1 ((2 + p2) - 3)))), v0))
    else
    (if p2 = 5 then
    ck (ixb (f_X7_ofL p1 ((2 + p2) - 3)) 240) (
    some (((v0 0) (Int32.toNatClampNeg (f_X7_ofL p1 ((2 + p2) - 3)))), v0))
    else
    (if p2 = 6 then
    ck (ixb (f_X7_ofL p1 ((2 + p2) - 3)) 240) (
    some (((v0 0) (Int32.toNatClampNeg (f_X7_ofL p1 ((2 + p2) - 3)))), v0))
    else
    (if p2 = 7 then
    bd1 (f_X7_findRegrets n0 v0) (fun v97 =>
    ck (ixb p1 30) (
    some (((v97 6) (Int32.toNatClampNeg p1)), v97)))
    else
    (if p2 = 8 then
    bd1 (f_X7_answering n0 v0 p1) (fun r109 =>
    some (r109, v0))
    else
    (if p2 = 9 then
    bd1 (f_X7_depth n0 v0 p1) (fun r115 =>
    some (r115, v0))
    else
    some ((-2), v0)))))))))))))
def f_X7_heatIn_L4 : Nat → DV → Int32 → Int32 → Int32 → Option (Int32)
  | 0, _, _, _, _ => none
  | n + 1, v, x1, x2, x3 =>
    (if ((v 0) (Int32.toNatClampNeg 5)) ≤ x3 then
    some x2
    else
    ck (ixb (f_X7_ofL x3 0) 240) (
    (if ((v 0) (Int32.toNatClampNeg (f_X7_ofL x3 0))) = x1 then
    ck (ixb (f_X7_ofL x3 3) 240) (
    (if ((v 0) (Int32.toNatClampNeg (f_X7_ofL x3 3))) = 0 then
    bd1 (f_X7_heat v x3) (fun r44 =>
    f_X7_heatIn_L4 n v x1 (x2 + r44) (x3 + 1))
    else
    f_X7_heatIn_L4 n v x1 (x2 + 0) (x3 + 1)))
    else
    f_X7_heatIn_L4 n v x1 (x2 + 0) (x3 + 1))))
def f_X7_heatIn (n0 : Nat) (v0 : DV) (p1 : Int32) : Option (Int32) :=
    f_X7_heatIn_L4 n0 v0 p1 0 0
def f_X7_ofDrawer (n0 : Nat) (v0 : DV) (p1 : Int32) (p2 : Int32) : Option (Int32) :=
    (if (f_X7_isMood p1) = 0 then
    some (-1)
    else
    (if p2 = 0 then
    bd1 (f_X7_many n0 v0 p1 0) (fun r59 =>
    some r59)
    else
    (if p2 = 1 then
    ck (ixb (f_X7_ofD p1 (p2 - 1)) 240) (
    some ((v0 0) (Int32.toNatClampNeg (f_X7_ofD p1 (p2 - 1)))))
    else
    (if p2 = 2 then
    ck (ixb (f_X7_ofD p1 (p2 - 1)) 240) (
    some ((v0 0) (Int32.toNatClampNeg (f_X7_ofD p1 (p2 - 1)))))
    else
    (if p2 = 3 then
    ck (ixb (f_X7_ofD p1 (p2 - 1)) 240) (
    some ((v0 0) (Int32.toNatClampNeg (f_X7_ofD p1 (p2 - 1)))))
    else
    (if p2 = 4 then
    ck (ixb (f_X7_ofD p1 (p2 - 1)) 240) (
    some ((v0 0) (Int32.toNatClampNeg (f_X7_ofD p1 (p2 - 1)))))
    else
    (if p2 = 5 then
    bd1 (f_X7_heatIn n0 v0 p1) (fun r78 =>
    some r78)
    else
    (if p2 = 6 then
    bd1 (f_X7_many n0 v0 p1 (p2 - 5)) (fun r87 =>
    some r87)
    else
    (if p2 = 7 then
    bd1 (f_X7_many n0 v0 p1 (p2 - 5)) (fun r87 =>
    some r87)
    else
    some (-2))))))))))
def f_X7_letters_L18 : Nat → DV → Int32 → Int64 → Int32 → Option (Int64)
  | 0, _, _, _, _ => none
  | n + 1, v, x1, x2, x4 =>
    (if ((v 0) (Int32.toNatClampNeg 5)) ≤ x4 then
    some x2
    else
    (if x1 = 3 then
    bd1 (f_X7_wouldGo v x4) (fun r38 =>
    (if r38 = 0 then
    f_X7_letters_L18 n v x1 (x2 ||| 0) (x4 + 1)
    else
    f_X7_letters_L18 n v x1 (x2 ||| (1 <<< (Int32.toInt64 x4 &&& 63))) (x4 + 1)))
    else
    ck (ixb (f_X7_ofL x4 3) 240) (
    (if ((v 0) (Int32.toNatClampNeg (f_X7_ofL x4 3))) = x1 then
    f_X7_letters_L18 n v x1 (x2 ||| (1 <<< (Int32.toInt64 x4 &&& 63))) (x4 + 1)
    else
    f_X7_letters_L18 n v x1 (x2 ||| 0) (x4 + 1)))))
def f_X7_letters (n0 : Nat) (v0 : DV) (p1 : Int32) : Option (Int64) :=
    (if (f_X7_in p1 0 3) = 0 then
    some (-2)
    else
    f_X7_letters_L18 n0 v0 p1 0 0)
def f_X7_locked_L4 : Nat → DV → Int32 → Int32 → Option (Int32)
  | 0, _, _, _ => none
  | n + 1, v, x1, x2 =>
    (if 6 ≤ x2 then
    some x1
    else
    ck (ixb (f_X7_ofD x2 0) 240) (
    f_X7_locked_L4 n v (x1 + ((v 0) (Int32.toNatClampNeg (f_X7_ofD x2 0)))) (x2 + 1)))
def f_X7_locked (n0 : Nat) (v0 : DV) : Option (Int32) :=
    f_X7_locked_L4 n0 v0 0 0
def f_X7_count (n0 : Nat) (v0 : DV) (p1 : Int32) : Option (Int32) :=
    (if p1 = 0 then
    ck (ixb (3 + p1) 240) (
    some ((v0 0) (Int32.toNatClampNeg (3 + p1))))
    else
    (if p1 = 1 then
    ck (ixb (3 + p1) 240) (
    some ((v0 0) (Int32.toNatClampNeg (3 + p1))))
    else
    (if p1 = 2 then
    ck (ixb (3 + p1) 240) (
    some ((v0 0) (Int32.toNatClampNeg (3 + p1))))
    else
    (if p1 = 3 then
    bd1 (f_X7_many n0 v0 6 (p1 - 3)) (fun r79 =>
    some r79)
    else
    (if p1 = 4 then
    bd1 (f_X7_many n0 v0 6 (p1 - 3)) (fun r79 =>
    some r79)
    else
    (if p1 = 5 then
    bd1 (f_X7_many n0 v0 6 (p1 - 3)) (fun r79 =>
    some r79)
    else
    (if p1 = 6 then
    bd1 (f_X7_locked n0 v0) (fun r84 =>
    some r84)
    else
    (if p1 = 7 then
    ck (ixb ((0 + p1) - 7) 240) (
    some ((v0 0) (Int32.toNatClampNeg ((0 + p1) - 7))))
    else
    (if p1 = 8 then
    ck (ixb ((0 + p1) - 7) 240) (
    some ((v0 0) (Int32.toNatClampNeg ((0 + p1) - 7))))
    else
    (if p1 = 9 then
    ck (ixb ((0 + p1) - 7) 240) (
    some ((v0 0) (Int32.toNatClampNeg ((0 + p1) - 7))))
    else
    (if p1 = 10 then
    some (v0 9 0)
    else
    (if p1 = 11 then
    some (v0 8 0)
    else
    some (-2)))))))))))))
def f_X7_bitsOf_L13 : Nat → Int32 → UInt32 → Option (Int32)
  | 0, _, _ => none
  | n + 1, x1, x2 =>
    (if 0 ≤ (Op.cmpValue (FP.fcmp x2 FP.fconst1) CmpOp.g) then
    ck (nn32 (FP.fsub x2 FP.fconst1)) (
    ck (nn32 (FP.fmul (FP.fsub x2 FP.fconst1) 1258291200)) (
    some ((x1 * 8388608) + (FP.f2i (FP.fmul (FP.fsub x2 FP.fconst1) 1258291200)))))
    else
    ck (nn32 (FP.fmul x2 FP.fconst2)) (
    f_X7_bitsOf_L13 n (x1 + (-1)) (FP.fmul x2 FP.fconst2)))
def f_X7_bitsOf (n0 : Nat) (p0 : UInt32) : Option (Int32) :=
    (if (Op.cmpValue (FP.fcmp p0 FP.fconst0) CmpOp.l) = 0 then
    some 0
    else
    f_X7_bitsOf_L13 n0 127 p0)
def f_X7_bitsOfDouble_L37 : Nat → Int64 → UInt64 → Option (Int64)
  | 0, _, _ => none
  | n + 1, x2, x4 =>
    (if (Op.cmpValue (FP.dcmp x4 4611686018427387904) CmpOp.l) < 0 then
    ck (nn64 (FP.dsub x4 FP.dconst1)) (
    ck (nn64 (FP.dmul (FP.dsub x4 FP.dconst1) 4841369599423283200)) (
    some ((x2 * 4503599627370496) + (FP.d2l (FP.dmul (FP.dsub x4 FP.dconst1) 4841369599423283200)))))
    else
    ck (nn64 (FP.dmul x4 4602678819172646912)) (
    f_X7_bitsOfDouble_L37 n (x2 + 1) (FP.dmul x4 4602678819172646912)))
def f_X7_bitsOfDouble_L15 : Nat → Int64 → UInt64 → Option (Int64)
  | 0, _, _ => none
  | n + 1, x2, x4 =>
    (if 0 ≤ (Op.cmpValue (FP.dcmp x4 FP.dconst1) CmpOp.g) then
    f_X7_bitsOfDouble_L37 n x2 x4
    else
    ck (nn64 (FP.dmul x4 4611686018427387904)) (
    f_X7_bitsOfDouble_L15 n (x2 - 1) (FP.dmul x4 4611686018427387904)))
def f_X7_bitsOfDouble (n0 : Nat) (p0 : UInt64) : Option (Int64) :=
    (if (Op.cmpValue (FP.dcmp p0 FP.dconst0) CmpOp.l) = 0 then
    some 0
    else
    f_X7_bitsOfDouble_L15 n0 1023 p0)
def f_X7_meanHeat_L4 : Nat → DV → Int32 → Int32 → Option (Int64)
  | 0, _, _, _ => none
  | n + 1, v, x1, x2 =>
    (if ((v 0) (Int32.toNatClampNeg 5)) ≤ x2 then
    bd1 (f_X7_many n v 6 1) (fun r50 =>
    (if r50 = 0 then
    some 0
    else
    ck (nn64 (FP.ddiv (FP.i2d x1) (FP.i2d r50))) (
    bd1 (f_X7_bitsOfDouble n (FP.ddiv (FP.i2d x1) (FP.i2d r50))) (fun r67 =>
    some r67))))
    else
    ck (ixb (f_X7_ofL x2 3) 240) (
    (if ((v 0) (Int32.toNatClampNeg (f_X7_ofL x2 3))) = 1 then
    bd1 (f_X7_heat v x2) (fun r31 =>
    f_X7_meanHeat_L4 n v (x1 + r31) (x2 + 1))
    else
    f_X7_meanHeat_L4 n v (x1 + 0) (x2 + 1))))
def f_X7_meanHeat (n0 : Nat) (v0 : DV) : Option (Int64) :=
    f_X7_meanHeat_L4 n0 v0 0 0
def f_X7_share (n0 : Nat) (v0 : DV) : Option (Int32) :=
    (if ((v0 0) (Int32.toNatClampNeg 5)) = 0 then
    some (-6)
    else
    bd1 (f_X7_many n0 v0 6 1) (fun r18 =>
    ck (nn32 (FP.fdiv (FP.i2f r18) (FP.i2f ((v0 0) (Int32.toNatClampNeg 5))))) (
    bd1 (f_X7_bitsOf n0 (FP.fdiv (FP.i2f r18) (FP.i2f ((v0 0) (Int32.toNatClampNeg 5))))) (fun r30 =>
    some r30))))
def f_X7_goesIn_J82 (n : Nat) (v : DV) (x2 : Int32) (z0 : Int32) : Option (Int32 × DV) :=
    bd1 (f_X7_putBack n v) (fun v84 =>
    (if z0 = 0 then
    some ((-6), v84)
    else
    some (x2, v84)))
def f_X7_goesIn_J63 (n : Nat) (v : DV) (x1 : Int32) (x2 : Int32) : Option (Int32 × DV) :=
    ck (ixb (f_X7_ofL x1 3) 240) (
    (if ((v 0) (Int32.toNatClampNeg (f_X7_ofL x1 3))) = 1 then
    f_X7_goesIn_J82 n v x2 1
    else
    f_X7_goesIn_J82 n v x2 0))
def f_X7_goesIn_L33 : Nat → DV → Int32 → Int32 → Option (Int32 × DV)
  | 0, _, _, _ => none
  | n + 1, v, x1, x2 =>
    (if 1200 ≤ x2 then
    f_X7_goesIn_J63 n v x1 x2
    else
    ck (ixb (f_X7_ofL x1 3) 240) (
    (if ((v 0) (Int32.toNatClampNeg (f_X7_ofL x1 3))) = 0 then
    bd1 (f_X7_hour n v) (fun v54 =>
    f_X7_goesIn_L33 n v54 x1 (x2 + 1))
    else
    f_X7_goesIn_J63 n v x1 x2)))
def f_X7_goesIn (n0 : Nat) (v0 : DV) (p1 : Int32) : Option (Int32 × DV) :=
    bd1 (f_X7_isLetter v0 p1) (fun r2 =>
    (if r2 = 0 then
    some ((-1), v0)
    else
    ck (ixb (f_X7_ofL p1 3) 240) (
    (if ((v0 0) (Int32.toNatClampNeg (f_X7_ofL p1 3))) = 2 then
    some ((-5), v0)
    else
    bd1 (f_X7_putAside n0 v0) (fun v28 =>
    f_X7_goesIn_L33 n0 v28 p1 0)))))
def f_X7_bestPost_J72 (k34 : DV → Int32 → Int32 → Int32 → Int32 → Int32 → Option (Int32 × DV)) (n : Nat) (v : DV) (x1 : Int32) (x2 : Int32) (x4 : Int32) (x5 : Int32) (x6 : Int32) (z0 : Int32) : Option (Int32 × DV) :=
    (if x6 ≤ x4 then
    bd1 (f_X7_putBack n v) (fun v90 =>
    k34 v90 x1 x2 z0 x4 (x5 + 1))
    else
    bd1 (f_X7_putBack n v) (fun v90 =>
    k34 v90 x1 x2 z0 x6 (x5 + 1)))
def f_X7_bestPost_L34 : Nat → DV → Int32 → Int32 → Int32 → Int32 → Int32 → Option (Int32 × DV)
  | 0, _, _, _, _, _, _ => none
  | n + 1, v, x1, x2, x3, x4, x5 =>
    (if 24 ≤ x5 then
    (if x2 = 0 then
    some (x3, v)
    else
    some (x4, v))
    else
    lt (vs v 0 (upd (v 0) (Int32.toNatClampNeg 0) x5)) (fun v48 =>
    bd2 (f_X7_passes n v48 (24 * x1)) (fun r54 v54 =>
    (if r54 ≤ x4 then
    f_X7_bestPost_J72 (fun v x1 x2 x3 x4 x5 => f_X7_bestPost_L34 n v x1 x2 x3 x4 x5) n v54 x1 x2 x4 x5 r54 x3
    else
    f_X7_bestPost_J72 (fun v x1 x2 x3 x4 x5 => f_X7_bestPost_L34 n v x1 x2 x3 x4 x5) n v54 x1 x2 x4 x5 r54 x5))))
def f_X7_bestPost (n0 : Nat) (v0 : DV) (p1 : Int32) (p2 : Int32) : Option (Int32 × DV) :=
    (if (f_X7_in p1 1 20) = 0 then
    some ((-2), v0)
    else
    (if (f_X7_in p2 0 1) = 0 then
    some ((-2), v0)
    else
    bd1 (f_X7_putAside n0 v0) (fun v28 =>
    f_X7_bestPost_L34 n0 v28 p1 p2 0 (-1) 0)))
def f_X7_mostRegretted_J59 (k9 : DV → Int32 → Int32 → Option (Int32 × DV)) (n : Nat) (v : DV) (x1 : Int32) (x2 : Int32) (z0 : Int32) : Option (Int32 × DV) :=
    (if z0 = 0 then
    k9 v x1 (x2 + 1)
    else
    k9 v x2 (x2 + 1))
def f_X7_mostRegretted_J58 (k9 : DV → Int32 → Int32 → Option (Int32 × DV)) (n : Nat) (v : DV) (x1 : Int32) (x2 : Int32) : Option (Int32 × DV) :=
    f_X7_mostRegretted_J59 k9 n v x1 x2 0
def f_X7_mostRegretted_J54 (k9 : DV → Int32 → Int32 → Option (Int32 × DV)) (n : Nat) (v : DV) (x1 : Int32) (x2 : Int32) : Option (Int32 × DV) :=
    f_X7_mostRegretted_J59 k9 n v x1 x2 1
def f_X7_mostRegretted_L9 : Nat → DV → Int32 → Int32 → Option (Int32 × DV)
  | 0, _, _, _ => none
  | n + 1, v, x1, x2 =>
    (if ((v 0) (Int32.toNatClampNeg 5)) ≤ x2 then
    some (x1, v)
    else
    ck (ixb (f_X7_ofL x2 3) 240) (
    (if ((v 0) (Int32.toNatClampNeg (f_X7_ofL x2 3))) = 1 then
    (if x1 = (-6) then
    f_X7_mostRegretted_J54 (fun v x1 x2 => f_X7_mostRegretted_L9 n v x1 x2) n v x1 x2
    else
    ck (ixb x2 30) (
    ck (ixb x1 30) (
    (if ((v 6) (Int32.toNatClampNeg x2)) ≤ ((v 6) (Int32.toNatClampNeg x1)) then
    f_X7_mostRegretted_J58 (fun v x1 x2 => f_X7_mostRegretted_L9 n v x1 x2) n v x1 x2
    else
    f_X7_mostRegretted_J54 (fun v x1 x2 => f_X7_mostRegretted_L9 n v x1 x2) n v x1 x2))))
    else
    f_X7_mostRegretted_J58 (fun v x1 x2 => f_X7_mostRegretted_L9 n v x1 x2) n v x1 x2)))
def f_X7_mostRegretted (n0 : Nat) (v0 : DV) : Option (Int32 × DV) :=
    bd1 (f_X7_findRegrets n0 v0) (fun v1 =>
    f_X7_mostRegretted_L9 n0 v1 (-6) 0)
def f_X7_ifSent (n0 : Nat) (v0 : DV) (p1 : Int32) (p2 : Int32) : Option (Int32 × DV) :=
    bd1 (f_X7_isLetter v0 p1) (fun r2 =>
    (if r2 = 0 then
    some ((-1), v0)
    else
    bd1 (f_X7_isLetter v0 p2) (fun r10 =>
    (if r10 = 0 then
    some ((-1), v0)
    else
    ck (ixb (f_X7_ofL p1 3) 240) (
    (if ((v0 0) (Int32.toNatClampNeg (f_X7_ofL p1 3))) = 1 then
    ck (ixb (f_X7_ofL p2 3) 240) (
    (if ((v0 0) (Int32.toNatClampNeg (f_X7_ofL p2 3))) = 0 then
    bd1 (f_X7_putAside n0 v0) (fun v49 =>
    bd1 (f_X7_heat v49 p2) (fun r64 =>
    ck (ixb (f_X7_ofL p2 6) 240) (
    lt (vs v49 0 (upd (v49 0) (Int32.toNatClampNeg (f_X7_ofL p2 6)) r64)) (fun v67 =>
    ck (ixb (f_X7_ofL p2 3) 240) (
    lt (vs v67 0 (upd (v67 0) (Int32.toNatClampNeg (f_X7_ofL p2 3)) 1)) (fun v78 =>
    bd2 (f_X7_ofLetter n0 v78 p1 7) (fun r83 v83 =>
    bd1 (f_X7_putBack n0 v83) (fun v88 =>
    some (r83, v88)))))))))
    else
    some ((-5), v0)))
    else
    some ((-5), v0)))))))
def f_X7_put_L126 : Nat → DV → Int64 → Int32 → Int32 → Option (Int32 × DV)
  | 0, _, _, _, _ => none
  | n + 1, v, x1, x3, x5 =>
    (if x3 ≤ x5 then
    some (((v 9 0) + x3), (vs v 9 (fun _ => ((v 9 0) + x3))))
    else
    ck (ixb ((((v 9 0) + x3) - 1) - x5) 80) (
    lt (vs v 5 (upd (v 5) (Int32.toNatClampNeg ((((v 9 0) + x3) - 1) - x5)) (Int64.toInt32 ((UInt64.toInt64 (Int64.toUInt64 x1 >>> (Int64.toUInt64 (Int32.toInt64 (8 * x5)) &&& Int64.toUInt64 63))) &&& 255)))) (fun v159 =>
    f_X7_put_L126 n v159 x1 x3 (x5 + 1))))
def f_X7_put_J80 (k8 : DV → Int64 → Int32 → Int32 → Int32 → Option (Int32 × DV)) (n : Nat) (v : DV) (x1 : Int64) (x3 : Int32) (x5 : Int32) (x7 : Int32) (z0 : Int32) : Option (Int32 × DV) :=
    (if x7 = 0 then
    k8 v x1 (x3 + 1) z0 (x5 + 1)
    else
    k8 v x1 (x3 + 0) z0 (x5 + 1))
def f_X7_put_J75 (k8 : DV → Int64 → Int32 → Int32 → Int32 → Option (Int32 × DV)) (n : Nat) (v : DV) (x1 : Int64) (x3 : Int32) (x5 : Int32) (x7 : Int32) : Option (Int32 × DV) :=
    f_X7_put_J80 k8 n v x1 x3 x5 x7 1
def f_X7_put_J79 (k8 : DV → Int64 → Int32 → Int32 → Int32 → Option (Int32 × DV)) (n : Nat) (v : DV) (x1 : Int64) (x3 : Int32) (x5 : Int32) (x7 : Int32) : Option (Int32 × DV) :=
    f_X7_put_J80 k8 n v x1 x3 x5 x7 0
def f_X7_put_J51 (k8 : DV → Int64 → Int32 → Int32 → Int32 → Option (Int32 × DV)) (n : Nat) (v : DV) (x1 : Int64) (x3 : Int32) (x4 : Int32) (x5 : Int32) (x6 : Int32) (z0 : Int32) : Option (Int32 × DV) :=
    (if x4 = 0 then
    (if z0 = 0 then
    (if (f_X7_in x6 33 126) = 0 then
    f_X7_put_J75 k8 n v x1 x3 x5 z0
    else
    f_X7_put_J79 k8 n v x1 x3 x5 z0)
    else
    f_X7_put_J79 k8 n v x1 x3 x5 z0)
    else
    f_X7_put_J75 k8 n v x1 x3 x5 z0)
def f_X7_put_J50 (k8 : DV → Int64 → Int32 → Int32 → Int32 → Option (Int32 × DV)) (n : Nat) (v : DV) (x1 : Int64) (x3 : Int32) (x4 : Int32) (x5 : Int32) (x6 : Int32) : Option (Int32 × DV) :=
    f_X7_put_J51 k8 n v x1 x3 x4 x5 x6 0
def f_X7_put_L8 : Nat → DV → Int64 → Int32 → Int32 → Int32 → Option (Int32 × DV)
  | 0, _, _, _, _, _ => none
  | n + 1, v, x1, x3, x4, x5 =>
    (if 8 ≤ x5 then
    (if x4 = 0 then
    (if ((v 9 0) + x3) ≤ 80 then
    f_X7_put_L126 n v x1 x3 0
    else
    some ((-4), v))
    else
    some ((-2), v))
    else
    (if x5 ≤ 0 then
    f_X7_put_J50 (fun v x1 x3 x4 x5 => f_X7_put_L8 n v x1 x3 x4 x5) n v x1 x3 x4 x5 (Int64.toInt32 ((UInt64.toInt64 (Int64.toUInt64 x1 >>> (Int64.toUInt64 (Int32.toInt64 (8 * x5)) &&& Int64.toUInt64 63))) &&& 255))
    else
    (if (lg_cmp (UInt64.toInt64 (Int64.toUInt64 x1 >>> (Int64.toUInt64 (Int32.toInt64 (8 * x5)) &&& Int64.toUInt64 63))) 0) = 0 then
    f_X7_put_J51 (fun v x1 x3 x4 x5 => f_X7_put_L8 n v x1 x3 x4 x5) n v x1 x3 x4 x5 (Int64.toInt32 ((UInt64.toInt64 (Int64.toUInt64 x1 >>> (Int64.toUInt64 (Int32.toInt64 (8 * x5)) &&& Int64.toUInt64 63))) &&& 255)) 1
    else
    f_X7_put_J50 (fun v x1 x3 x4 x5 => f_X7_put_L8 n v x1 x3 x4 x5) n v x1 x3 x4 x5 (Int64.toInt32 ((UInt64.toInt64 (Int64.toUInt64 x1 >>> (Int64.toUInt64 (Int32.toInt64 (8 * x5)) &&& Int64.toUInt64 63))) &&& 255)))))
def f_X7_put (n0 : Nat) (v0 : DV) (p1 : Int64) : Option (Int32 × DV) :=
    f_X7_put_L8 n0 v0 p1 0 0 0
def f_X7_wipe (v0 : DV) : Option (Int32 × DV) :=
    some ((v0 9 0), (vs v0 9 (fun _ => 0)))
def f_X7_sign_J47 (v : DV) (x3 : Int32) (z0 : Int32) : Option (Int32 × DV) :=
    ck (okZ z0) (
    (if z0 = 0 then
    some (x3, (vs (vs v 11 (fun _ => z0)) 10 (fun _ => ((v 10 0) + 1))))
    else
    some (x3, (vs (vs v 11 (fun _ => z0)) 10 (fun _ => ((v 10 0) + 0))))))
def f_X7_sign_J42 (v : DV) (x3 : Int32) : Option (Int32 × DV) :=
    f_X7_sign_J47 v x3 1
def f_X7_sign_J24 (v : DV) (x1 : Int32) (x2 : Int32) (z0 : Int32) : Option (Int32 × DV) :=
    (if (v 11 0) = 0 then
    (if (f_X7_in z0 x1 x2) = 0 then
    f_X7_sign_J42 v z0
    else
    f_X7_sign_J47 v z0 0)
    else
    f_X7_sign_J42 v z0)
def f_X7_sign (v0 : DV) (p1 : Int32) (p2 : Int32) : Option (Int32 × DV) :=
    (if (v0 9 0) ≤ (v0 10 0) then
    f_X7_sign_J24 v0 p1 p2 0
    else
    ck (ixb (v0 10 0) 80) (
    f_X7_sign_J24 v0 p1 p2 ((v0 5) (Int32.toNatClampNeg (v0 10 0)))))
def f_X7_isNext (v0 : DV) (p1 : Int32) (p2 : Int32) : Option (Int32) :=
    (if (v0 11 0) = 0 then
    (if (v0 9 0) ≤ (v0 10 0) then
    some 0
    else
    ck (ixb (v0 10 0) 80) (
    (if (f_X7_in ((v0 5) (Int32.toNatClampNeg (v0 10 0))) p1 p2) = 0 then
    some 0
    else
    some 1)))
    else
    some 0)
def f_X7_number (v0 : DV) : Option (Int32 × DV) :=
    bd2 (f_X7_sign v0 48 57) (fun r5 v5 =>
    (if (r5 - 48) ≤ 0 then
    some ((r5 - 48), v5)
    else
    bd1 (f_X7_isNext v5 48 57) (fun r21 =>
    (if r21 = 0 then
    some ((r5 - 48), v5)
    else
    bd2 (f_X7_sign v5 48 57) (fun r36 v36 =>
    some ((((10 * (r5 - 48)) + r36) - 48), v36))))))
def f_X7_order_J219 (v : DV) (x1 : Int32) : Option (DV) :=
    (if x1 = 117 then
    bd2 (f_X7_sign v 45 45) (fun r230 v230 =>
    bd2 (f_X7_number v230) (fun r236 v236 =>
    some (vs v236 15 (fun _ => r236))))
    else
    some v)
def f_X7_order_J173 (v : DV) (x1 : Int32) (z0 : Int32) : Option (DV) :=
    (if x1 = 43 then
    bd1 (f_X7_isNext (vs (vs v 14 (fun _ => z0)) 15 (fun _ => (-6))) 94 94) (fun r193 =>
    (if r193 = 0 then
    f_X7_order_J219 (vs (vs v 14 (fun _ => z0)) 15 (fun _ => (-6))) x1
    else
    bd2 (f_X7_sign (vs (vs v 14 (fun _ => z0)) 15 (fun _ => (-6))) 94 94) (fun r204 v204 =>
    bd2 (f_X7_number v204) (fun r210 v210 =>
    some (vs v210 15 (fun _ => r210))))))
    else
    f_X7_order_J219 (vs (vs v 14 (fun _ => z0)) 15 (fun _ => (-6))) x1)
def f_X7_order_J165 (v : DV) (x1 : Int32) : Option (DV) :=
    bd2 (f_X7_number v) (fun r166 v166 =>
    f_X7_order_J173 v166 x1 r166)
def f_X7_order_J151 (v : DV) (x1 : Int32) (z0 : Int32) : Option (DV) :=
    (if x1 = 43 then
    f_X7_order_J165 v x1
    else
    (if x1 = 117 then
    f_X7_order_J165 v x1
    else
    f_X7_order_J173 v x1 0))
def f_X7_order_J130 (v : DV) (x1 : Int32) (z0 : Int32) : Option (DV) :=
    (if x1 = 43 then
    bd2 (f_X7_sign (vs v 13 (fun _ => z0)) 58 58) (fun r144 v144 =>
    f_X7_order_J151 v144 x1 r144)
    else
    f_X7_order_J151 (vs v 13 (fun _ => z0)) x1 0)
def f_X7_order_J98 (v : DV) (x1 : Int32) (x2 : Int32) (z0 : Int32) (z1 : Int32) : Option (DV) :=
    (if x2 = 0 then
    bd2 (f_X7_number (vs (vs v 10 (fun _ => (z1 + z0))) 12 (fun _ => x1))) (fun r127 v127 =>
    f_X7_order_J130 v127 x1 r127)
    else
    bd2 (f_X7_sign (vs (vs v 10 (fun _ => (z1 + z0))) 12 (fun _ => x1)) 48 53) (fun r117 v117 =>
    f_X7_order_J130 v117 x1 (r117 - 48)))
def f_X7_order_J78 (v : DV) (x1 : Int32) (x2 : Int32) (z0 : Int32) : Option (DV) :=
    ck (okZ z0) (
    (if z0 = 0 then
    f_X7_order_J98 (vs v 11 (fun _ => z0)) x1 x2 1 (v 10 0)
    else
    f_X7_order_J98 (vs v 11 (fun _ => z0)) x1 x2 0 (v 10 0)))
def f_X7_order_J73 (v : DV) (x1 : Int32) (x2 : Int32) : Option (DV) :=
    f_X7_order_J78 v x1 x2 1
def f_X7_order_J77 (v : DV) (x1 : Int32) (x2 : Int32) : Option (DV) :=
    f_X7_order_J78 v x1 x2 0
def f_X7_order_J48 (v : DV) (x1 : Int32) (z0 : Int32) : Option (DV) :=
    (if (v 11 0) = 0 then
    (if z0 = 0 then
    (if x1 = 116 then
    f_X7_order_J77 v x1 z0
    else
    (if x1 = 98 then
    f_X7_order_J77 v x1 z0
    else
    f_X7_order_J73 v x1 z0))
    else
    f_X7_order_J77 v x1 z0)
    else
    f_X7_order_J73 v x1 z0)
def f_X7_order_J43 (v : DV) (x1 : Int32) : Option (DV) :=
    f_X7_order_J48 v x1 1
def f_X7_order_J24 (v : DV) (z0 : Int32) : Option (DV) :=
    (if z0 = 43 then
    f_X7_order_J43 v z0
    else
    (if z0 = 107 then
    f_X7_order_J43 v z0
    else
    (if z0 = 117 then
    f_X7_order_J43 v z0
    else
    f_X7_order_J48 v z0 0)))
def f_X7_order (v0 : DV) : Option (DV) :=
    (if (v0 9 0) ≤ (v0 10 0) then
    f_X7_order_J24 v0 0
    else
    ck (ixb (v0 10 0) 80) (
    f_X7_order_J24 v0 ((v0 5) (Int32.toNatClampNeg (v0 10 0)))))
def f_X7_does_J90 (n : Nat) (v : DV) (x1 : Int32) (z0 : Int32) : Option (Int32 × DV) :=
    (if z0 = 0 then
    (if x1 = 43 then
    bd2 (f_X7_writes v (v 13 0) (v 14 0) (v 15 0)) (fun r114 v114 =>
    (if z0 = 0 then
    some (1, v114)
    else
    some (0, v114)))
    else
    (if x1 = 116 then
    bd2 (f_X7_passes n v (v 13 0)) (fun r131 v131 =>
    (if z0 = 0 then
    some (1, v131)
    else
    some (0, v131)))
    else
    (if x1 = 98 then
    bd2 (f_X7_burns v (v 13 0)) (fun r148 v148 =>
    (if z0 = 0 then
    some (1, v148)
    else
    some (0, v148)))
    else
    (if x1 = 117 then
    bd2 (f_X7_putsHours v (v 13 0) (v 14 0) (v 15 0)) (fun r173 v173 =>
    (if z0 = 0 then
    some (1, v173)
    else
    some (0, v173)))
    else
    bd2 (f_X7_turns v (v 13 0)) (fun r184 v184 =>
    (if z0 = 0 then
    some (1, v184)
    else
    some (0, v184)))))))
    else
    (if z0 = 0 then
    some (1, v)
    else
    some (0, v)))
def f_X7_does (n0 : Nat) (v0 : DV) : Option (Int32 × DV) :=
    (if (v0 12 0) = 43 then
    bd1 (f_X7_writeFault n0 v0 (v0 13 0) (v0 14 0) (v0 15 0)) (fun r24 =>
    f_X7_does_J90 n0 v0 (v0 12 0) r24)
    else
    (if (v0 12 0) = 116 then
    bd1 (f_X7_passFault v0 (v0 13 0)) (fun r41 =>
    f_X7_does_J90 n0 v0 (v0 12 0) r41)
    else
    (if (v0 12 0) = 98 then
    bd1 (f_X7_burnFault v0 (v0 13 0)) (fun r58 =>
    f_X7_does_J90 n0 v0 (v0 12 0) r58)
    else
    (if (v0 12 0) = 117 then
    f_X7_does_J90 n0 v0 (v0 12 0) (f_X7_hoursFault v0 (v0 13 0) (v0 14 0) (v0 15 0))
    else
    f_X7_does_J90 n0 v0 (v0 12 0) 0))))
def f_X7_go_J85 (k14 : DV → Int32 → Int32 → Int32 → Option (Int32 × DV)) (n : Nat) (v : DV) (x1 : Int32) (x2 : Int32) (z0 : Int32) : Option (Int32 × DV) :=
    (if z0 = 0 then
    k14 v x1 x2 z0
    else
    bd2 (f_X7_sign v 59 59) (fun r95 v95 =>
    (if (v95 11 0) = 0 then
    k14 v95 x1 x2 1
    else
    k14 v95 x1 x2 0)))
def f_X7_go_J84 (k14 : DV → Int32 → Int32 → Int32 → Option (Int32 × DV)) (n : Nat) (v : DV) (x1 : Int32) (x2 : Int32) : Option (Int32 × DV) :=
    f_X7_go_J85 k14 n v x1 x2 0
def f_X7_go_J69 (k14 : DV → Int32 → Int32 → Int32 → Option (Int32 × DV)) (n : Nat) (v : DV) (x1 : Int32) (x2 : Int32) : Option (Int32 × DV) :=
    (if (v 9 0) ≤ (v 10 0) then
    f_X7_go_J84 k14 n v x1 x2
    else
    f_X7_go_J85 k14 n v x1 x2 1)
def f_X7_go_J51 (k14 : DV → Int32 → Int32 → Int32 → Option (Int32 × DV)) (n : Nat) (v : DV) (x1 : Int32) (x4 : Int32) (z0 : Int32) (z1 : Int32) : Option (Int32 × DV) :=
    (if (v 11 0) = 0 then
    (if x4 = 0 then
    (if x1 = 0 then
    f_X7_go_J69 k14 n v x1 (z1 + z0)
    else
    f_X7_go_J84 k14 n v x1 (z1 + z0))
    else
    f_X7_go_J69 k14 n v x1 (z1 + z0))
    else
    f_X7_go_J84 k14 n v x1 (z1 + z0))
def f_X7_go_J38 (k14 : DV → Int32 → Int32 → Int32 → Option (Int32 × DV)) (n : Nat) (v : DV) (x1 : Int32) (x2 : Int32) (z0 : Int32) : Option (Int32 × DV) :=
    (if z0 = 0 then
    f_X7_go_J51 k14 n v x1 z0 0 x2
    else
    f_X7_go_J51 k14 n v x1 z0 1 x2)
def f_X7_go_J37 (k14 : DV → Int32 → Int32 → Int32 → Option (Int32 × DV)) (n : Nat) (v : DV) (x1 : Int32) (x2 : Int32) : Option (Int32 × DV) :=
    f_X7_go_J38 k14 n v x1 x2 0
def f_X7_go_L14 : Nat → DV → Int32 → Int32 → Int32 → Option (Int32 × DV)
  | 0, _, _, _, _ => none
  | n + 1, v, x1, x2, x3 =>
    (if x3 = 0 then
    some (x2, v)
    else
    bd1 (f_X7_order v) (fun v19 =>
    (if x1 = 0 then
    f_X7_go_J37 (fun v x1 x2 x3 => f_X7_go_L14 n v x1 x2 x3) n v19 x1 x2
    else
    bd2 (f_X7_does n v19) (fun r27 v27 =>
    (if r27 = 0 then
    f_X7_go_J37 (fun v x1 x2 x3 => f_X7_go_L14 n v x1 x2 x3) n v27 x1 x2
    else
    f_X7_go_J38 (fun v x1 x2 x3 => f_X7_go_L14 n v x1 x2 x3) n v27 x1 x2 1)))))
def f_X7_go (n0 : Nat) (v0 : DV) (p1 : Int32) : Option (Int32 × DV) :=
    f_X7_go_L14 n0 (vs (vs v0 10 (fun _ => 0)) 11 (fun _ => 0)) p1 0 1
def f_X7_fault (n0 : Nat) (v0 : DV) : Option (Int32 × DV) :=
    bd2 (f_X7_go n0 v0 0) (fun r2 v2 =>
    (if (v2 11 0) = 0 then
    some ((-6), v2)
    else
    some ((v2 10 0), v2)))
def f_X7_carryOut (n0 : Nat) (v0 : DV) : Option (Int32 × DV) :=
    bd2 (f_X7_go n0 v0 0) (fun r2 v2 =>
    (if (v2 11 0) = 0 then
    bd1 (f_X7_know n0 v2) (fun v17 =>
    bd2 (f_X7_go n0 v17 1) (fun r22 v22 =>
    some (r22, (vs v22 9 (fun _ => 0)))))
    else
    some ((-3), v2)))
def f_X7_undo_L22 : Nat → DV → Int32 → Option (Int32 × DV)
  | 0, _, _ => none
  | n + 1, v, x1 =>
    (if 240 ≤ x1 then
    some ((v 8 0), v)
    else
    ck (ixb ((240 * (v 8 0)) + x1) 1440) (
    ck (ixb x1 240) (
    lt (vs v 0 (upd (v 0) (Int32.toNatClampNeg x1) ((v 2) (Int32.toNatClampNeg ((240 * (v 8 0)) + x1))))) (fun v49 =>
    f_X7_undo_L22 n v49 (x1 + 1)))))
def f_X7_undo (n0 : Nat) (v0 : DV) : Option (Int32 × DV) :=
    (if (v0 8 0) = 0 then
    some ((-5), v0)
    else
    f_X7_undo_L22 n0 (vs v0 8 (fun _ => ((v0 8 0) - 1))) 0)
def f_X7_save_L14 : Nat → DV → Int32 → Int32 → Option (Int32 × DV)
  | 0, _, _, _ => none
  | n + 1, v, x1, x2 =>
    (if 240 ≤ x2 then
    ck (ixb x1 2) (
    lt (vs v 4 (upd (v 4) (Int32.toNatClampNeg x1) (vp_nar .boolean 1))) (fun v51 =>
    some (((v51 0) (Int32.toNatClampNeg 5)), v51)))
    else
    ck (ixb x2 240) (
    ck (ixb ((240 * x1) + x2) 480) (
    lt (vs v 3 (upd (v 3) (Int32.toNatClampNeg ((240 * x1) + x2)) ((v 0) (Int32.toNatClampNeg x2)))) (fun v38 =>
    f_X7_save_L14 n v38 x1 (x2 + 1)))))
def f_X7_save (n0 : Nat) (v0 : DV) (p1 : Int32) : Option (Int32 × DV) :=
    (if (f_X7_in p1 0 1) = 0 then
    some ((-2), v0)
    else
    f_X7_save_L14 n0 v0 p1 0)
def f_X7_restore_L30 : Nat → DV → Int32 → Int32 → Option (Int32 × DV)
  | 0, _, _, _ => none
  | n + 1, v, x1, x2 =>
    (if 240 ≤ x2 then
    some (((v 0) (Int32.toNatClampNeg 5)), v)
    else
    ck (ixb ((240 * x1) + x2) 480) (
    ck (ixb x2 240) (
    lt (vs v 0 (upd (v 0) (Int32.toNatClampNeg x2) ((v 3) (Int32.toNatClampNeg ((240 * x1) + x2))))) (fun v54 =>
    f_X7_restore_L30 n v54 x1 (x2 + 1)))))
def f_X7_restore (n0 : Nat) (v0 : DV) (p1 : Int32) : Option (Int32 × DV) :=
    (if (f_X7_in p1 0 1) = 0 then
    some ((-2), v0)
    else
    ck (ixb p1 2) (
    (if ((v0 4) (Int32.toNatClampNeg p1)) = 0 then
    some ((-5), v0)
    else
    bd1 (f_X7_know n0 v0) (fun v25 =>
    f_X7_restore_L30 n0 v25 p1 0))))
