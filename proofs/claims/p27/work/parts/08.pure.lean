def f_X1_at_30 (fu : Nat) (x1 : Int32) (S : Mem)  : Option Nat :=
  none
def f_X1_at (fu : Nat) (x1 : Int32) (S : Mem) : Option Nat :=
  (if x1 < 0 then f_X1_at_30 fu x1 S else (if (S.1 1 0 1) ≤ x1 then f_X1_at_30 fu x1 S else (if (nI 5) ≤ x1 then f_X1_at_30 fu x1 S else gd (inb x1 5) (gd (inb x1 5) (some ((x1 : Int32).toNatClampNeg))))))
def f_X1_secondsBetween_5 (fu : Nat) (x1 : Int32) (x2 : Int32) (S : Mem) : Nat → Int32 → Int32 → Option Int32
  | 0, _, _ => none
  | n + 1, x3, x4 => (if x2 ≤ x4 then some x3 else b1 (f_X1_at fu x4 S) (fun r15 => f_X1_secondsBetween_5 fu x1 x2 S n (x3 + (S.1 4 r15 1)) (x4 + 1)))
def f_X1_secondsBetween (fu : Nat) (x1 : Int32) (x2 : Int32) (S : Mem) : Option Int32 :=
  f_X1_secondsBetween_5 fu x1 x2 S fu 0 x1
def f_X5_clear (fu : Nat) (k : Nat) (S : Mem) : Option (Unit × Mem) :=
  some ((), (wL (wL S 5 k 0 0) 5 k 1 0))
def f_X2_clear (fu : Nat) (k : Nat) (S : Mem) : Option (Unit × Mem) :=
  b2 (f_X5_clear fu (2 * k) S) (fun _ S4 => b2 (f_X5_clear fu (2 * k + 1) S4) (fun _ S11 => some ((), S11)))
def f_X7_modulo_21 (fu : Nat) (x0 : Int32) (x1 : Int32) (S : Mem) (t0 : Int32) : Option Int32 :=
  some t0
def f_X7_modulo (fu : Nat) (x0 : Int32) (x1 : Int32) (S : Mem) : Option Int32 :=
  (if (0 : Int32) < x1 then gd (!(x1 == 0)) ((if (0 : Int32) ≤ (x0 - x0 / x1 * x1) then f_X7_modulo_21 fu x0 x1 S (x0 - x0 / x1 * x1) else f_X7_modulo_21 fu x0 x1 S ((x0 - x0 / x1 * x1) + x1))) else some 0)
def f_X7_read_17 (fu : Nat) (ck len k : Nat) (x1 : Int32) (S : Mem) (t0 : Int32) : Option Int32 :=
  some t0
def f_X7_read_16 (fu : Nat) (ck len k : Nat) (x1 : Int32) (S : Mem)  : Option Int32 :=
  f_X7_read_17 fu ck len k x1 S 0
def f_X7_read (fu : Nat) (ck len k : Nat) (x1 : Int32) (S : Mem) : Option Int32 :=
  (if x1 < 0 then f_X7_read_16 fu ck len k x1 S else (if (nI len) ≤ x1 then f_X7_read_16 fu ck len k x1 S else gd (inb x1 len) (f_X7_read_17 fu ck len k x1 S (S.1 ck k (x1 : Int32).toNatClampNeg))))
def f_X7_hasBit_13 (fu : Nat) (x0 : Int32) (x1 : Int32) (S : Mem) (t0 : Int32) : Option Int32 :=
  some (nb t0)
def f_X7_hasBit (fu : Nat) (x0 : Int32) (x1 : Int32) (S : Mem) : Option Int32 :=
  (if ((x0 >>> (x1 &&& 31)) &&& 1) = 0 then f_X7_hasBit_13 fu x0 x1 S 0 else f_X7_hasBit_13 fu x0 x1 S 1)
def f_X3_isLitFrom (fu : Nat) (k : Nat) (x1 : Int32) (x2 : Int32) (x3 : Int32) (S : Mem) : Option Int32 :=
  b1 (f_X7_modulo fu (x3 - x1) (S.1 3 k 8) S) (fun r11 => b1 (f_X7_read fu 16 90 k r11 S) (fun r14 => b1 (f_X7_hasBit fu r14 x2 S) (fun r18 => some (nb r18))))
def f_X5_add_36 (fu : Nat) (k : Nat) (x1 : Int32) (S : Mem) : Option (Unit × Mem) :=
  some ((), S)
def f_X5_add (fu : Nat) (k : Nat) (x1 : Int32) (S : Mem) : Option (Unit × Mem) :=
  (if (64 : Int32) ≤ x1 then f_X5_add_36 fu k x1 (wL S 5 k 1 ((S.2 5 k 1) ||| ((1 : Int64) <<< (((x1 - 64) : Int32).toInt64 &&& 63)))) else f_X5_add_36 fu k x1 (wL S 5 k 0 ((S.2 5 k 0) ||| ((1 : Int64) <<< ((x1 : Int32).toInt64 &&& 63)))))
def f_X0_fillFrom_107 (fu : Nat) (K47 : Nat → Int32 → Int32 → Int32 → Mem → Option (Unit × Mem)) (x1 : Int32) (x2 : Int32) (i3 : Nat) (x4 : Nat) (x5 : Int32) (x6 : Int32) (x7 : Int32) (S : Mem) : Option (Unit × Mem) :=
  K47 x4 x5 x6 (x7 + 1) S
def f_X0_fillFrom_83 (fu : Nat) (K47 : Nat → Int32 → Int32 → Int32 → Mem → Option (Unit × Mem)) (x1 : Int32) (x2 : Int32) (i3 : Nat) (x4 : Nat) (x5 : Int32) (x6 : Int32) (x7 : Int32) (S : Mem) : Option (Unit × Mem) :=
  b1 (f_X3_isLitFrom fu x4 x2 1 (x7 + x6) S) (fun r92 => (if r92 = 0 then f_X0_fillFrom_107 fu K47 x1 x2 i3 x4 x5 x6 x7 S else b2 (f_X5_add fu (2 * i3 + 1) x7 S) (fun _ S104 => f_X0_fillFrom_107 fu K47 x1 x2 i3 x4 x5 x6 x7 S104)))
def f_X0_fillFrom_47 (fu : Nat) (x1 : Int32) (x2 : Int32) (i3 : Nat) : Nat → Nat → Int32 → Int32 → Int32 → Mem → Option (Unit × Mem)
  | 0, _, _, _, _, _ => none
  | n + 1, x4, x5, x6, x7, S => (if (S.1 1 0 2) ≤ x7 then some ((), S) else b1 (f_X3_isLitFrom fu x4 x2 0 (x7 + x5) S) (fun r68 => (if r68 = 0 then f_X0_fillFrom_83 fu (f_X0_fillFrom_47 fu x1 x2 i3 n) x1 x2 i3 x4 x5 x6 x7 S else b2 (f_X5_add fu (2 * i3) x7 S) (fun _ S80 => f_X0_fillFrom_83 fu (f_X0_fillFrom_47 fu x1 x2 i3 n) x1 x2 i3 x4 x5 x6 x7 S80))))
def f_X0_fillFrom (fu : Nat) (x1 : Int32) (x2 : Int32) (i3 : Nat) (S : Mem) : Option (Unit × Mem) :=
  b1 (f_X1_at fu x1 S) (fun r5 => b1 (f_X1_secondsBetween fu 0 x1 S) (fun r16 => b1 (f_X1_secondsBetween fu x1 ((S.1 1 0 1) - 1) S) (fun r35 => b2 (f_X2_clear fu i3 S) (fun _ S41 => f_X0_fillFrom_47 fu x1 x2 i3 fu r5 r16 r35 0 S41))))
def f_X2_addAll_2 (fu : Nat) (k : Nat) (x1 : Int32) : Nat → Int32 → Mem → Option (Unit × Mem)
  | 0, _, _ => none
  | n + 1, x2, S => (if x1 ≤ x2 then some ((), S) else b2 (f_X5_add fu (2 * k) x2 S) (fun _ S12 => b2 (f_X5_add fu (2 * k + 1) x2 S12) (fun _ S20 => f_X2_addAll_2 fu k x1 n (x2 + 1) S20)))
def f_X2_addAll (fu : Nat) (k : Nat) (x1 : Int32) (S : Mem) : Option (Unit × Mem) :=
  f_X2_addAll_2 fu k x1 fu 0 S
def f_X5_becomeCommon (fu : Nat) (k : Nat) (i1 : Nat) (i2 : Nat) (S : Mem) : Option (Unit × Mem) :=
  some ((), (wL (wL S 5 k 0 ((S.2 5 i1 0) &&& (S.2 5 i2 0))) 5 k 1 (((wL S 5 k 0 ((S.2 5 i1 0) &&& (S.2 5 i2 0))).2 5 i1 1) &&& ((wL S 5 k 0 ((S.2 5 i1 0) &&& (S.2 5 i2 0))).2 5 i2 1))))
def f_X2_becomeCommon (fu : Nat) (k : Nat) (i1 : Nat) (i2 : Nat) (S : Mem) : Option (Unit × Mem) :=
  b2 (f_X5_becomeCommon fu (2 * k) (2 * i1) (2 * i2) S) (fun _ S12 => b2 (f_X5_becomeCommon fu (2 * k + 1) (2 * i1 + 1) (2 * i2 + 1) S12) (fun _ S27 => some ((), S27)))
def f_X0_fillCommon_74 (fu : Nat) (K23 : Int32 → Mem → Option (Unit × Mem)) (x1 : Int32) (x2 : Int32) (S : Mem) : Option (Unit × Mem) :=
  K23 (x2 + 1) S
def f_X0_fillCommon_23 (fu : Nat) (x1 : Int32) : Nat → Int32 → Mem → Option (Unit × Mem)
  | 0, _, _ => none
  | n + 1, x2, S => (if (S.1 1 0 1) ≤ x2 then some ((), S) else (if x2 = x1 then f_X0_fillCommon_74 fu (f_X0_fillCommon_23 fu x1 n) x1 x2 S else b1 (f_X1_at fu x2 S) (fun r46 => b2 (f_X0_fillFrom fu x2 (S.1 3 r46 9) 1 S) (fun _ S56 => b2 (f_X2_becomeCommon fu 0 0 1 S56) (fun _ S71 => f_X0_fillCommon_74 fu (f_X0_fillCommon_23 fu x1 n) x1 x2 S71)))))
def f_X0_fillCommon (fu : Nat) (x1 : Int32) (S : Mem) : Option (Unit × Mem) :=
  b2 (f_X2_clear fu 0 S) (fun _ S4 => b2 (f_X2_addAll fu 0 (S4.1 1 0 2) S4) (fun _ S18 => f_X0_fillCommon_23 fu x1 fu 0 S18))
def f_J13_bitCount_95d88 (fu : Nat) (x0 : Int64) (S : Mem) : Option Int32 :=
  some ((((((((((x0 - (((x0).toUInt64 >>> ((1 : Int32).toInt64.toUInt64 &&& Int64.toUInt64 63)).toInt64 &&& 6148914691236517205)) &&& 3689348814741910323) + ((((x0 - (((x0).toUInt64 >>> ((1 : Int32).toInt64.toUInt64 &&& Int64.toUInt64 63)).toInt64 &&& 6148914691236517205))).toUInt64 >>> ((2 : Int32).toInt64.toUInt64 &&& Int64.toUInt64 63)).toInt64 &&& 3689348814741910323)) + (((((x0 - (((x0).toUInt64 >>> ((1 : Int32).toInt64.toUInt64 &&& Int64.toUInt64 63)).toInt64 &&& 6148914691236517205)) &&& 3689348814741910323) + ((((x0 - (((x0).toUInt64 >>> ((1 : Int32).toInt64.toUInt64 &&& Int64.toUInt64 63)).toInt64 &&& 6148914691236517205))).toUInt64 >>> ((2 : Int32).toInt64.toUInt64 &&& Int64.toUInt64 63)).toInt64 &&& 3689348814741910323))).toUInt64 >>> ((4 : Int32).toInt64.toUInt64 &&& Int64.toUInt64 63)).toInt64) &&& 1085102592571150095) + (((((((x0 - (((x0).toUInt64 >>> ((1 : Int32).toInt64.toUInt64 &&& Int64.toUInt64 63)).toInt64 &&& 6148914691236517205)) &&& 3689348814741910323) + ((((x0 - (((x0).toUInt64 >>> ((1 : Int32).toInt64.toUInt64 &&& Int64.toUInt64 63)).toInt64 &&& 6148914691236517205))).toUInt64 >>> ((2 : Int32).toInt64.toUInt64 &&& Int64.toUInt64 63)).toInt64 &&& 3689348814741910323)) + (((((x0 - (((x0).toUInt64 >>> ((1 : Int32).toInt64.toUInt64 &&& Int64.toUInt64 63)).toInt64 &&& 6148914691236517205)) &&& 3689348814741910323) + ((((x0 - (((x0).toUInt64 >>> ((1 : Int32).toInt64.toUInt64 &&& Int64.toUInt64 63)).toInt64 &&& 6148914691236517205))).toUInt64 >>> ((2 : Int32).toInt64.toUInt64 &&& Int64.toUInt64 63)).toInt64 &&& 3689348814741910323))).toUInt64 >>> ((4 : Int32).toInt64.toUInt64 &&& Int64.toUInt64 63)).toInt64) &&& 1085102592571150095)).toUInt64 >>> ((8 : Int32).toInt64.toUInt64 &&& Int64.toUInt64 63)).toInt64) + ((((((((x0 - (((x0).toUInt64 >>> ((1 : Int32).toInt64.toUInt64 &&& Int64.toUInt64 63)).toInt64 &&& 6148914691236517205)) &&& 3689348814741910323) + ((((x0 - (((x0).toUInt64 >>> ((1 : Int32).toInt64.toUInt64 &&& Int64.toUInt64 63)).toInt64 &&& 6148914691236517205))).toUInt64 >>> ((2 : Int32).toInt64.toUInt64 &&& Int64.toUInt64 63)).toInt64 &&& 3689348814741910323)) + (((((x0 - (((x0).toUInt64 >>> ((1 : Int32).toInt64.toUInt64 &&& Int64.toUInt64 63)).toInt64 &&& 6148914691236517205)) &&& 3689348814741910323) + ((((x0 - (((x0).toUInt64 >>> ((1 : Int32).toInt64.toUInt64 &&& Int64.toUInt64 63)).toInt64 &&& 6148914691236517205))).toUInt64 >>> ((2 : Int32).toInt64.toUInt64 &&& Int64.toUInt64 63)).toInt64 &&& 3689348814741910323))).toUInt64 >>> ((4 : Int32).toInt64.toUInt64 &&& Int64.toUInt64 63)).toInt64) &&& 1085102592571150095) + (((((((x0 - (((x0).toUInt64 >>> ((1 : Int32).toInt64.toUInt64 &&& Int64.toUInt64 63)).toInt64 &&& 6148914691236517205)) &&& 3689348814741910323) + ((((x0 - (((x0).toUInt64 >>> ((1 : Int32).toInt64.toUInt64 &&& Int64.toUInt64 63)).toInt64 &&& 6148914691236517205))).toUInt64 >>> ((2 : Int32).toInt64.toUInt64 &&& Int64.toUInt64 63)).toInt64 &&& 3689348814741910323)) + (((((x0 - (((x0).toUInt64 >>> ((1 : Int32).toInt64.toUInt64 &&& Int64.toUInt64 63)).toInt64 &&& 6148914691236517205)) &&& 3689348814741910323) + ((((x0 - (((x0).toUInt64 >>> ((1 : Int32).toInt64.toUInt64 &&& Int64.toUInt64 63)).toInt64 &&& 6148914691236517205))).toUInt64 >>> ((2 : Int32).toInt64.toUInt64 &&& Int64.toUInt64 63)).toInt64 &&& 3689348814741910323))).toUInt64 >>> ((4 : Int32).toInt64.toUInt64 &&& Int64.toUInt64 63)).toInt64) &&& 1085102592571150095)).toUInt64 >>> ((8 : Int32).toInt64.toUInt64 &&& Int64.toUInt64 63)).toInt64)).toUInt64 >>> ((16 : Int32).toInt64.toUInt64 &&& Int64.toUInt64 63)).toInt64) + (((((((((x0 - (((x0).toUInt64 >>> ((1 : Int32).toInt64.toUInt64 &&& Int64.toUInt64 63)).toInt64 &&& 6148914691236517205)) &&& 3689348814741910323) + ((((x0 - (((x0).toUInt64 >>> ((1 : Int32).toInt64.toUInt64 &&& Int64.toUInt64 63)).toInt64 &&& 6148914691236517205))).toUInt64 >>> ((2 : Int32).toInt64.toUInt64 &&& Int64.toUInt64 63)).toInt64 &&& 3689348814741910323)) + (((((x0 - (((x0).toUInt64 >>> ((1 : Int32).toInt64.toUInt64 &&& Int64.toUInt64 63)).toInt64 &&& 6148914691236517205)) &&& 3689348814741910323) + ((((x0 - (((x0).toUInt64 >>> ((1 : Int32).toInt64.toUInt64 &&& Int64.toUInt64 63)).toInt64 &&& 6148914691236517205))).toUInt64 >>> ((2 : Int32).toInt64.toUInt64 &&& Int64.toUInt64 63)).toInt64 &&& 3689348814741910323))).toUInt64 >>> ((4 : Int32).toInt64.toUInt64 &&& Int64.toUInt64 63)).toInt64) &&& 1085102592571150095) + (((((((x0 - (((x0).toUInt64 >>> ((1 : Int32).toInt64.toUInt64 &&& Int64.toUInt64 63)).toInt64 &&& 6148914691236517205)) &&& 3689348814741910323) + ((((x0 - (((x0).toUInt64 >>> ((1 : Int32).toInt64.toUInt64 &&& Int64.toUInt64 63)).toInt64 &&& 6148914691236517205))).toUInt64 >>> ((2 : Int32).toInt64.toUInt64 &&& Int64.toUInt64 63)).toInt64 &&& 3689348814741910323)) + (((((x0 - (((x0).toUInt64 >>> ((1 : Int32).toInt64.toUInt64 &&& Int64.toUInt64 63)).toInt64 &&& 6148914691236517205)) &&& 3689348814741910323) + ((((x0 - (((x0).toUInt64 >>> ((1 : Int32).toInt64.toUInt64 &&& Int64.toUInt64 63)).toInt64 &&& 6148914691236517205))).toUInt64 >>> ((2 : Int32).toInt64.toUInt64 &&& Int64.toUInt64 63)).toInt64 &&& 3689348814741910323))).toUInt64 >>> ((4 : Int32).toInt64.toUInt64 &&& Int64.toUInt64 63)).toInt64) &&& 1085102592571150095)).toUInt64 >>> ((8 : Int32).toInt64.toUInt64 &&& Int64.toUInt64 63)).toInt64) + ((((((((x0 - (((x0).toUInt64 >>> ((1 : Int32).toInt64.toUInt64 &&& Int64.toUInt64 63)).toInt64 &&& 6148914691236517205)) &&& 3689348814741910323) + ((((x0 - (((x0).toUInt64 >>> ((1 : Int32).toInt64.toUInt64 &&& Int64.toUInt64 63)).toInt64 &&& 6148914691236517205))).toUInt64 >>> ((2 : Int32).toInt64.toUInt64 &&& Int64.toUInt64 63)).toInt64 &&& 3689348814741910323)) + (((((x0 - (((x0).toUInt64 >>> ((1 : Int32).toInt64.toUInt64 &&& Int64.toUInt64 63)).toInt64 &&& 6148914691236517205)) &&& 3689348814741910323) + ((((x0 - (((x0).toUInt64 >>> ((1 : Int32).toInt64.toUInt64 &&& Int64.toUInt64 63)).toInt64 &&& 6148914691236517205))).toUInt64 >>> ((2 : Int32).toInt64.toUInt64 &&& Int64.toUInt64 63)).toInt64 &&& 3689348814741910323))).toUInt64 >>> ((4 : Int32).toInt64.toUInt64 &&& Int64.toUInt64 63)).toInt64) &&& 1085102592571150095) + (((((((x0 - (((x0).toUInt64 >>> ((1 : Int32).toInt64.toUInt64 &&& Int64.toUInt64 63)).toInt64 &&& 6148914691236517205)) &&& 3689348814741910323) + ((((x0 - (((x0).toUInt64 >>> ((1 : Int32).toInt64.toUInt64 &&& Int64.toUInt64 63)).toInt64 &&& 6148914691236517205))).toUInt64 >>> ((2 : Int32).toInt64.toUInt64 &&& Int64.toUInt64 63)).toInt64 &&& 3689348814741910323)) + (((((x0 - (((x0).toUInt64 >>> ((1 : Int32).toInt64.toUInt64 &&& Int64.toUInt64 63)).toInt64 &&& 6148914691236517205)) &&& 3689348814741910323) + ((((x0 - (((x0).toUInt64 >>> ((1 : Int32).toInt64.toUInt64 &&& Int64.toUInt64 63)).toInt64 &&& 6148914691236517205))).toUInt64 >>> ((2 : Int32).toInt64.toUInt64 &&& Int64.toUInt64 63)).toInt64 &&& 3689348814741910323))).toUInt64 >>> ((4 : Int32).toInt64.toUInt64 &&& Int64.toUInt64 63)).toInt64) &&& 1085102592571150095)).toUInt64 >>> ((8 : Int32).toInt64.toUInt64 &&& Int64.toUInt64 63)).toInt64)).toUInt64 >>> ((16 : Int32).toInt64.toUInt64 &&& Int64.toUInt64 63)).toInt64)).toUInt64 >>> ((32 : Int32).toInt64.toUInt64 &&& Int64.toUInt64 63)).toInt64)).toInt32 &&& 127)
def f_X5_countCommon (fu : Nat) (k : Nat) (i1 : Nat) (S : Mem) : Option Int32 :=
  b1 (f_J13_bitCount_95d88 fu ((S.2 5 k 0) &&& (S.2 5 i1 0)) S) (fun r9 => b1 (f_J13_bitCount_95d88 fu ((S.2 5 k 1) &&& (S.2 5 i1 1)) S) (fun r21 => some (r9 + r21)))
def f_X0_width_26 (fu : Nat) (x1 : Int32) (t0 : Nat) (S : Mem) : Option (Int32 × Mem) :=
  b1 (f_X5_countCommon fu t0 t0 S) (fun r29 => some (r29, S))
def f_X0_width (fu : Nat) (x1 : Int32) (S : Mem) : Option (Int32 × Mem) :=
  b2 (f_X0_fillCommon fu (-1) S) (fun _ S2 => (if x1 = 0 then f_X0_width_26 fu x1 (2 * 0 + 1) S2 else f_X0_width_26 fu x1 (2 * 0) S2))
def f_X2_countCommon (fu : Nat) (k : Nat) (i1 : Nat) (S : Mem) : Option Int32 :=
  b1 (f_X5_countCommon fu (2 * k) (2 * i1) S) (fun r8 => b1 (f_X5_countCommon fu (2 * k + 1) (2 * i1 + 1) S) (fun r19 => some (r8 + r19)))
def f_X5_has_38 (fu : Nat) (k : Nat) (x1 : Int32) (S : Mem) (t0 : Int32) : Option Int32 :=
  some (nb t0)
def f_X5_has_24 (fu : Nat) (k : Nat) (x1 : Int32) (S : Mem) (t0 : Int64) : Option Int32 :=
  (if (lg_cmp (t0 &&& 1) 0) = 0 then f_X5_has_38 fu k x1 S 0 else f_X5_has_38 fu k x1 S 1)
def f_X5_has (fu : Nat) (k : Nat) (x1 : Int32) (S : Mem) : Option Int32 :=
  (if (64 : Int32) ≤ x1 then f_X5_has_24 fu k x1 S ((((S.2 5 k 1)).toUInt64 >>> (((x1 - 64) : Int32).toInt64.toUInt64 &&& Int64.toUInt64 63)).toInt64) else f_X5_has_24 fu k x1 S ((((S.2 5 k 0)).toUInt64 >>> ((x1 : Int32).toInt64.toUInt64 &&& Int64.toUInt64 63)).toInt64))
def f_X5_remove_44 (fu : Nat) (k : Nat) (x1 : Int32) (S : Mem) : Option (Unit × Mem) :=
  some ((), S)
def f_X5_remove (fu : Nat) (k : Nat) (x1 : Int32) (S : Mem) : Option (Unit × Mem) :=
  (if (64 : Int32) ≤ x1 then f_X5_remove_44 fu k x1 (wL S 5 k 1 ((S.2 5 k 1) &&& (((1 : Int64) <<< (((x1 - 64) : Int32).toInt64 &&& 63)) ^^^ (-1)))) else f_X5_remove_44 fu k x1 (wL S 5 k 0 ((S.2 5 k 0) &&& (((1 : Int64) <<< ((x1 : Int32).toInt64 &&& 63)) ^^^ (-1)))))
def f_X5_turn_15 (fu : Nat) (k : Nat) (x1 : Int32) (t0 : Int64) (S : Mem) : Option (Unit × Mem) :=
  b2 (f_X5_remove fu k x1 (wL (wL S 5 k 1 (((S.2 5 k 1) <<< ((1 : Int32).toInt64 &&& 63)) ||| (((S.2 5 k 0)).toUInt64 >>> ((63 : Int32).toInt64.toUInt64 &&& Int64.toUInt64 63)).toInt64)) 5 k 0 ((((wL S 5 k 1 (((S.2 5 k 1) <<< ((1 : Int32).toInt64 &&& 63)) ||| (((S.2 5 k 0)).toUInt64 >>> ((63 : Int32).toInt64.toUInt64 &&& Int64.toUInt64 63)).toInt64)).2 5 k 0) <<< ((1 : Int32).toInt64 &&& 63)) ||| t0))) (fun _ S48 => some ((), S48))
def f_X5_turn (fu : Nat) (k : Nat) (x1 : Int32) (S : Mem) : Option (Unit × Mem) :=
  b1 (f_X5_has fu k (x1 - 1) S) (fun r4 => (if r4 = 0 then f_X5_turn_15 fu k x1 0 S else f_X5_turn_15 fu k x1 1 S))
def f_X2_turn (fu : Nat) (k : Nat) (x1 : Int32) (S : Mem) : Option (Unit × Mem) :=
  b2 (f_X5_turn fu (2 * k) x1 S) (fun _ S5 => b2 (f_X5_turn fu (2 * k + 1) x1 S5) (fun _ S13 => some ((), S13)))
def f_X0_lowestBestOffset_41 (fu : Nat) (K6 : Int32 → Int32 → Int32 → Mem → Option (Int32 × Mem)) (x1 : Int32) (x2 : Int32) (x3 : Int32) (S : Mem) : Option (Int32 × Mem) :=
  b2 (f_X2_turn fu 1 (S.1 1 0 2) S) (fun _ S52 => K6 x1 x2 (x3 + 1) S52)
def f_X0_lowestBestOffset_6 (fu : Nat) : Nat → Int32 → Int32 → Int32 → Mem → Option (Int32 × Mem)
  | 0, _, _, _, _ => none
  | n + 1, x1, x2, x3, S => (if (S.1 1 0 2) ≤ x3 then some (x1, S) else b1 (f_X2_countCommon fu 0 1 S) (fun r25 => (if r25 ≤ x2 then f_X0_lowestBestOffset_41 fu (f_X0_lowestBestOffset_6 fu n) x1 x2 x3 S else f_X0_lowestBestOffset_41 fu (f_X0_lowestBestOffset_6 fu n) x3 r25 x3 S)))
def f_X0_lowestBestOffset (fu : Nat) (S : Mem) : Option (Int32 × Mem) :=
  f_X0_lowestBestOffset_6 fu fu 0 0 0 S
def f_X0_improveOffset_50 (fu : Nat) (x1 : Int32) (t0 : Int32) (S : Mem) : Option (Int32 × Mem) :=
  some (nb t0, S)
def f_X0_improveOffset (fu : Nat) (x1 : Int32) (S : Mem) : Option (Int32 × Mem) :=
  b1 (f_X1_at fu x1 S) (fun r5 => b2 (f_X0_fillCommon fu x1 S) (fun _ S16 => b2 (f_X0_fillFrom fu x1 0 1 S16) (fun _ S26 => b2 (f_X0_lowestBestOffset fu S26) (fun r31 S31 => (if ((wI S31 3 r5 9 r31).1 3 r5 9) = (S.1 3 r5 9) then f_X0_improveOffset_50 fu x1 0 (wI S31 3 r5 9 r31) else f_X0_improveOffset_50 fu x1 1 (wI S31 3 r5 9 r31))))))
def f_X0_improveOffsets_49 (fu : Nat) (S : Mem) : Option (Int32 × Mem) :=
  b2 (f_X0_fillCommon fu (-1) S) (fun _ S51 => b1 (f_X2_countCommon fu 0 0 S51) (fun r62 => some (r62, S51)))
def f_X0_improveOffsets_18 (fu : Nat) (K4 : Int32 → Int32 → Mem → Option (Int32 × Mem)) : Nat → Int32 → Int32 → Int32 → Mem → Option (Int32 × Mem)
  | 0, _, _, _, _ => none
  | n + 1, x1, x2, x3, S => (if (S.1 1 0 1) ≤ x3 then K4 x1 (x2 + 1) S else b2 (f_X0_improveOffset fu x3 S) (fun r32 S32 => f_X0_improveOffsets_18 fu K4 n (x1 ||| r32) x2 (x3 + 1) S32))
def f_X0_improveOffsets_4 (fu : Nat) : Nat → Int32 → Int32 → Mem → Option (Int32 × Mem)
  | 0, _, _, _ => none
  | n + 1, x1, x2, S => (if (10 : Int32) ≤ x2 then f_X0_improveOffsets_49 fu S else (if x1 = 0 then f_X0_improveOffsets_49 fu S else f_X0_improveOffsets_18 fu (f_X0_improveOffsets_4 fu n) fu 0 x2 1 S))
def f_X0_improveOffsets (fu : Nat) (S : Mem) : Option (Int32 × Mem) :=
  f_X0_improveOffsets_4 fu fu 1 0 S
def f_J7_fill_53178_5 (fu : Nat) (ck len k : Nat) (x1 : Int32) : Nat → Int32 → Int32 → Mem → Option (Unit × Mem)
  | 0, _, _, _ => none
  | n + 1, x2, x3, S => (if x3 ≤ x2 then some ((), S) else gd (inb x2 len) (f_J7_fill_53178_5 fu ck len k x1 n (x2 + 1) x3 (wI S ck k (x2 : Int32).toNatClampNeg x1)))
def f_J7_fill_53178 (fu : Nat) (ck len k : Nat) (x1 : Int32) (S : Mem) : Option (Unit × Mem) :=
  f_J7_fill_53178_5 fu ck len k x1 fu 0 (nI len) S
def f_X4_reset (fu : Nat) (k : Nat) (S : Mem) : Option (Unit × Mem) :=
  b2 (f_J7_fill_53178 fu 17 61 k 0 (wI (wI (wI S 4 k 1 10) 4 k 2 20) 4 k 3 0)) (fun _ S22 => some ((), S22))
def f_X7_write_14 (fu : Nat) (ck len k : Nat) (x1 : Int32) (x2 : Int32) (S : Mem) : Option (Unit × Mem) :=
  some ((), S)
def f_X7_write (fu : Nat) (ck len k : Nat) (x1 : Int32) (x2 : Int32) (S : Mem) : Option (Unit × Mem) :=
  (if x1 < 0 then f_X7_write_14 fu ck len k x1 x2 S else (if (nI len) ≤ x1 then f_X7_write_14 fu ck len k x1 x2 S else gd (inb x1 len) (f_X7_write_14 fu ck len k x1 x2 (wI S ck k (x1 : Int32).toNatClampNeg x2))))
def f_X3_writeClearance (fu : Nat) (k : Nat) (x1 : Int32) (x2 : Int32) (x3 : Int32) (S : Mem) : Option (Unit × Mem) :=
  b2 (f_X7_write fu 11 16 k ((x1 * 4) + x2) x3 S) (fun _ S10 => b2 (f_X7_write fu 11 16 k ((x2 * 4) + x1) x3 S10) (fun _ S23 => some ((), S23)))
def f_X3_writeSets_64 (fu : Nat) (k : Nat) (x1 : Int32) (x2 : Int32) (x3 : Int32) (x4 : Int32) (t0 : Int32) (S : Mem) : Option (Unit × Mem) :=
  some ((), (wI S 3 k 7 t0))
def f_X3_writeSets (fu : Nat) (k : Nat) (x1 : Int32) (x2 : Int32) (x3 : Int32) (x4 : Int32) (S : Mem) : Option (Unit × Mem) :=
  b2 (f_X7_write fu 12 4 k 0 x1 S) (fun _ S6 => b2 (f_X7_write fu 12 4 k 1 x2 S6) (fun _ S15 => b2 (f_X7_write fu 12 4 k 2 x3 S15) (fun _ S24 => b2 (f_X7_write fu 12 4 k 3 x4 S24) (fun _ S34 => (if x2 = 0 then f_X3_writeSets_64 fu k x1 x2 x3 x4 1 S34 else (if x3 = 0 then f_X3_writeSets_64 fu k x1 x2 x3 x4 2 S34 else (if x4 = 0 then f_X3_writeSets_64 fu k x1 x2 x3 x4 3 S34 else f_X3_writeSets_64 fu k x1 x2 x3 x4 4 S34)))))))
def f_X3_clearanceOf (fu : Nat) (k : Nat) (x1 : Int32) (x2 : Int32) (S : Mem) : Option Int32 :=
  b1 (f_X7_read fu 11 16 k ((x1 * 4) + x2) S) (fun r9 => some r9)
def f_X3_greatestClearance_51 (fu : Nat) (K14 : Int32 → Int32 → Int32 → Option Int32) (k : Nat) (x1 : Int32) (x2 : Int32) (S : Mem) (x3 : Int32) (x4 : Int32) (x5 : Int32) : Option Int32 :=
  K14 x3 x4 (x5 + 1)
def f_X3_greatestClearance_14 (fu : Nat) (K5 : Int32 → Int32 → Option Int32) (k : Nat) (x1 : Int32) (x2 : Int32) (S : Mem) : Nat → Int32 → Int32 → Int32 → Option Int32
  | 0, _, _, _ => none
  | n + 1, x3, x4, x5 => (if (4 : Int32) ≤ x5 then K5 x3 (x4 + 1) else b1 (f_X7_hasBit fu x1 x4 S) (fun r23 => (if r23 = 0 then f_X3_greatestClearance_51 fu (f_X3_greatestClearance_14 fu K5 k x1 x2 S n) k x1 x2 S x3 x4 x5 else b1 (f_X7_hasBit fu x2 x5 S) (fun r32 => (if r32 = 0 then f_X3_greatestClearance_51 fu (f_X3_greatestClearance_14 fu K5 k x1 x2 S n) k x1 x2 S x3 x4 x5 else b1 (f_X3_clearanceOf fu k x4 x5 S) (fun r44 => f_X3_greatestClearance_51 fu (f_X3_greatestClearance_14 fu K5 k x1 x2 S n) k x1 x2 S (jmax x3 r44) x4 x5))))))
def f_X3_greatestClearance_5 (fu : Nat) (k : Nat) (x1 : Int32) (x2 : Int32) (S : Mem) : Nat → Int32 → Int32 → Option Int32
  | 0, _, _ => none
  | n + 1, x3, x4 => (if (4 : Int32) ≤ x4 then some x3 else f_X3_greatestClearance_14 fu (f_X3_greatestClearance_5 fu k x1 x2 S n) k x1 x2 S fu x3 x4 0)
def f_X3_greatestClearance (fu : Nat) (k : Nat) (x1 : Int32) (x2 : Int32) (S : Mem) : Option Int32 :=
  f_X3_greatestClearance_5 fu k x1 x2 S fu (-1) 0
def f_X3_leastGreen_21 (fu : Nat) (k : Nat) (x1 : Int32) (S : Mem) (t0 : Int32) : Option Int32 :=
  some t0
def f_X3_leastGreen (fu : Nat) (k : Nat) (x1 : Int32) (S : Mem) : Option Int32 :=
  b1 (f_X7_read fu 12 4 k x1 S) (fun r5 => b1 (f_X7_hasBit fu r5 3 S) (fun r9 => (if r9 = 0 then f_X3_leastGreen_21 fu k x1 S 5 else f_X3_leastGreen_21 fu k x1 S 8)))
def f_X3_weightOf_37 (fu : Nat) (K4 : Int32 → Int32 → Option Int32) (k : Nat) (x1 : Int32) (S : Mem) (x2 : Int32) (x3 : Int32) : Option Int32 :=
  K4 x2 (x3 + 1)
def f_X3_weightOf_4 (fu : Nat) (k : Nat) (x1 : Int32) (S : Mem) : Nat → Int32 → Int32 → Option Int32
  | 0, _, _ => none
  | n + 1, x2, x3 => (if (4 : Int32) ≤ x3 then some x2 else b1 (f_X7_read fu 12 4 k x1 S) (fun r14 => b1 (f_X7_hasBit fu r14 x3 S) (fun r18 => (if r18 = 0 then f_X3_weightOf_37 fu (f_X3_weightOf_4 fu k x1 S n) k x1 S x2 x3 else b1 (f_X7_read fu 13 4 k x3 S) (fun r30 => f_X3_weightOf_37 fu (f_X3_weightOf_4 fu k x1 S n) k x1 S (jmax x2 r30) x3)))))
def f_X3_weightOf (fu : Nat) (k : Nat) (x1 : Int32) (S : Mem) : Option Int32 :=
  f_X3_weightOf_4 fu k x1 S fu 0 0
def f_X7_share_11 (fu : Nat) (x0 : Int32) (x1 : Int32) (S : Mem) (t0 : Int32) : Option Int32 :=
  some t0
def f_X7_share (fu : Nat) (x0 : Int32) (x1 : Int32) (S : Mem) : Option Int32 :=
  (if x1 ≤ 0 then f_X7_share_11 fu x0 x1 S 0 else gd (!(x1 == 0)) (f_X7_share_11 fu x0 x1 S (x0 / x1)))
def f_X3_shareOut_116 (fu : Nat) (k : Nat) (x1 : Int32) (x2 : Int32) (S : Mem) : Option (Unit × Mem) :=
  some ((), S)
def f_X3_shareOut_75 (fu : Nat) (k : Nat) (x1 : Int32) (x2 : Int32) : Nat → Int32 → Int32 → Mem → Option (Unit × Mem)
  | 0, _, _, _ => none
  | n + 1, x3, x4, S => (if (S.1 3 k 7) ≤ x4 then f_X3_shareOut_116 fu k x1 x2 S else (if x3 ≤ x4 then f_X3_shareOut_116 fu k x1 x2 S else b1 (f_X7_read fu 14 4 k x4 S) (fun r102 => b2 (f_X7_write fu 14 4 k x4 (r102 + 1) S) (fun _ S107 => f_X3_shareOut_75 fu k x1 x2 n x3 (x4 + 1) S107))))
def f_X3_shareOut_41 (fu : Nat) (K5 : Int32 → Int32 → Mem → Option (Unit × Mem)) (k : Nat) (x1 : Int32) (x2 : Int32) (x3 : Int32) (x4 : Int32) (t0 : Int32) (S : Mem) : Option (Unit × Mem) :=
  b1 (f_X3_leastGreen fu k x4 S) (fun r52 => b2 (f_X7_write fu 14 4 k x4 (r52 + t0) S) (fun _ S58 => K5 (x3 - t0) (x4 + 1) S58))
def f_X3_shareOut_5 (fu : Nat) (k : Nat) (x1 : Int32) (x2 : Int32) : Nat → Int32 → Int32 → Mem → Option (Unit × Mem)
  | 0, _, _, _ => none
  | n + 1, x3, x4, S => (if (S.1 3 k 7) ≤ x4 then f_X3_shareOut_75 fu k x1 x2 fu x3 0 S else (if x2 = 0 then b1 (f_X7_share fu x1 (S.1 3 k 7) S) (fun r23 => f_X3_shareOut_41 fu (f_X3_shareOut_5 fu k x1 x2 n) k x1 x2 x3 x4 r23 S) else b1 (f_X3_weightOf fu k x4 S) (fun r33 => b1 (f_X7_share fu (x1 * r33) x2 S) (fun r38 => f_X3_shareOut_41 fu (f_X3_shareOut_5 fu k x1 x2 n) k x1 x2 x3 x4 r38 S))))
def f_X3_shareOut (fu : Nat) (k : Nat) (x1 : Int32) (x2 : Int32) (S : Mem) : Option (Unit × Mem) :=
  f_X3_shareOut_5 fu k x1 x2 fu x1 0 S
def f_X3_drawLights_69 (fu : Nat) (K38 : Int32 → Int32 → Int32 → Int32 → Mem → Option (Unit × Mem)) (k : Nat) (x2 : Int32) (x3 : Int32) (x4 : Int32) (x5 : Int32) (t0 : Int32) (t1 : Int32) (S : Mem) : Option (Unit × Mem) :=
  b2 (f_X7_write fu 16 90 k t1 t0 S) (fun _ S69 => K38 x2 x3 x4 (x5 + 1) S69)
def f_X3_drawLights_38 (fu : Nat) (K4 : Int32 → Int32 → Mem → Option (Unit × Mem)) (k : Nat) : Nat → Int32 → Int32 → Int32 → Int32 → Mem → Option (Unit × Mem)
  | 0, _, _, _, _, _ => none
  | n + 1, x2, x3, x4, x5, S => (if x4 ≤ x5 then K4 x4 (x2 + 1) S else (if x3 ≤ x5 then f_X3_drawLights_69 fu (f_X3_drawLights_38 fu K4 k n) k x2 x3 x4 x5 0 x5 S else b1 (f_X7_read fu 12 4 k x2 S) (fun r62 => f_X3_drawLights_69 fu (f_X3_drawLights_38 fu K4 k n) k x2 x3 x4 x5 r62 x5 S)))
def f_X3_drawLights_4 (fu : Nat) (k : Nat) : Nat → Int32 → Int32 → Mem → Option (Unit × Mem)
  | 0, _, _, _ => none
  | n + 1, x1, x2, S => (if (S.1 3 k 7) ≤ x2 then some ((), S) else b1 (f_X7_read fu 14 4 k x2 S) (fun r18 => b1 (f_X7_read fu 15 4 k x2 S) (fun r29 => f_X3_drawLights_38 fu (f_X3_drawLights_4 fu k n) k fu x2 (x1 + r18) ((x1 + r18) + r29) x1 S)))
def f_X3_drawLights (fu : Nat) (k : Nat) (S : Mem) : Option (Unit × Mem) :=
  f_X3_drawLights_4 fu k fu 0 0 S
def f_X3_makePlan_128 (fu : Nat) (k : Nat) (S : Mem) : Option (Unit × Mem) :=
  some ((), S)
def f_X3_makePlan_108 (fu : Nat) (k : Nat) (x1 : Int32) (x2 : Int32) (t0 : Int32) (S : Mem) : Option (Unit × Mem) :=
  gd (nb t0 == t0) ((if ((wI S 3 k 10 t0).1 3 k 10) = 0 then f_X3_makePlan_128 fu k (wI S 3 k 10 t0) else b2 (f_X3_shareOut fu k x1 x2 (wI S 3 k 10 t0)) (fun _ S121 => b2 (f_X3_drawLights fu k S121) (fun _ S125 => f_X3_makePlan_128 fu k S125))))
def f_X3_makePlan_34 (fu : Nat) (K9 : Int32 → Int32 → Int32 → Mem → Option (Unit × Mem)) (k : Nat) (x1 : Int32) (x2 : Int32) (x3 : Int32) (t0 : Int32) (S : Mem) : Option (Unit × Mem) :=
  b1 (f_X7_read fu 12 4 k x3 S) (fun r43 => b1 (f_X7_read fu 12 4 k t0 S) (fun r52 => b1 (f_X3_greatestClearance fu k r43 r52 S) (fun r55 => b2 (f_X7_write fu 15 4 k x3 (jmax 0 r55) S) (fun _ S70 => b1 (f_X3_leastGreen fu k x3 S70) (fun r78 => b1 (f_X3_weightOf fu k x3 S70) (fun r87 => K9 (x1 - ((jmax 0 r55) + r78)) (x2 + r87) (x3 + 1) S70))))))
def f_X3_makePlan_9 (fu : Nat) (k : Nat) : Nat → Int32 → Int32 → Int32 → Mem → Option (Unit × Mem)
  | 0, _, _, _, _ => none
  | n + 1, x1, x2, x3, S => (if (S.1 3 k 7) ≤ x3 then (if x1 < 0 then f_X3_makePlan_108 fu k x1 x2 0 S else f_X3_makePlan_108 fu k x1 x2 1 S) else (if (S.1 3 k 7) ≤ (x3 + 1) then f_X3_makePlan_34 fu (f_X3_makePlan_9 fu k n) k x1 x2 x3 0 S else f_X3_makePlan_34 fu (f_X3_makePlan_9 fu k n) k x1 x2 x3 (x3 + 1) S))
def f_X3_makePlan (fu : Nat) (k : Nat) (S : Mem) : Option (Unit × Mem) :=
  f_X3_makePlan_9 fu k fu (S.1 3 k 8) 0 0 S
def f_X3_reset (fu : Nat) (k : Nat) (x1 : Int32) (S : Mem) : Option (Unit × Mem) :=
  b2 (f_X4_reset fu k (wI (wI (wI (wI (wI (wI (wI (wI S 3 k 8 x1) 3 k 9 0) 3 k 11 0) 3 k 12 0) 3 k 13 0) 3 k 14 (-1)) 3 k 15 (-1)) 3 k 16 0)) (fun _ S44 => b2 (f_J7_fill_53178 fu 13 4 k 0 S44) (fun _ S52 => b2 (f_J7_fill_53178 fu 11 16 k (-1) S52) (fun _ S60 => b2 (f_X3_writeClearance fu k 0 2 3 S60) (fun _ S67 => b2 (f_X3_writeClearance fu k 0 3 3 S67) (fun _ S74 => b2 (f_X3_writeClearance fu k 1 2 3 S74) (fun _ S81 => b2 (f_X3_writeClearance fu k 1 3 3 S81) (fun _ S88 => b2 (f_X3_writeSets fu k 3 12 0 0 S88) (fun _ S97 => b2 (f_X3_makePlan fu k S97) (fun _ S101 => some ((), S101))))))))))
def f_X1_reset_12 (fu : Nat) (x1 : Int32) (x2 : Int32) : Nat → Int32 → Mem → Option (Unit × Mem)
  | 0, _, _ => none
  | n + 1, x3, S => (if (S.1 1 0 1) ≤ x3 then some ((), S) else b1 (f_X1_at fu x3 S) (fun r22 => b2 (f_X3_reset fu r22 x2 S) (fun _ S26 => f_X1_reset_12 fu x1 x2 n (x3 + 1) S26)))
def f_X1_reset (fu : Nat) (x1 : Int32) (x2 : Int32) (S : Mem) : Option (Unit × Mem) :=
  f_X1_reset_12 fu x1 x2 fu 0 (wI (wI S 1 0 1 x1) 1 0 2 x2)
def f_X1_isLast_15 (fu : Nat) (x1 : Int32) (S : Mem) (t0 : Int32) : Option Int32 :=
  some (nb t0)
def f_X1_isLast (fu : Nat) (x1 : Int32) (S : Mem) : Option Int32 :=
  (if x1 = ((S.1 1 0 1) - 1) then f_X1_isLast_15 fu x1 S 1 else f_X1_isLast_15 fu x1 S 0)
def f_X1_linkFrom (fu : Nat) (x1 : Int32) (S : Mem) : Option Nat :=
  b1 (f_X1_at fu x1 S) (fun r2 => b1 (f_X1_isLast fu x1 S) (fun r8 => (if r8 = 0 then some r2 else none)))
def f_X1_vehiclesOnLinkFrom (fu : Nat) (x1 : Int32) (S : Mem) : Option Int32 :=
  b1 (f_X1_linkFrom fu x1 S) (fun r2 => b1 (f_X1_at fu (x1 + 1) S) (fun r12 => some ((S.1 4 r2 3) + (S.1 3 r12 11))))
def f_X1_isPlanned_2 (fu : Nat) (S : Mem) : Nat → Int32 → Option Int32
  | 0, _ => none
  | n + 1, x1 => (if (S.1 1 0 1) ≤ x1 then some (nb 1) else b1 (f_X1_at fu x1 S) (fun r12 => (if (S.1 3 r12 10) = 0 then some (nb 0) else f_X1_isPlanned_2 fu S n (x1 + 1))))
def f_X1_isPlanned (fu : Nat) (S : Mem) : Option Int32 :=
  f_X1_isPlanned_2 fu S fu 0
def f_X3_changeClearance (fu : Nat) (k : Nat) (x1 : Int32) (x2 : Int32) (x3 : Int32) (S : Mem) : Option (Unit × Mem) :=
  b2 (f_X3_writeClearance fu k x1 x2 x3 S) (fun _ S4 => b2 (f_X3_makePlan fu k S4) (fun _ S8 => some ((), S8)))
def f_X3_changePhases (fu : Nat) (k : Nat) (x1 : Int32) (x2 : Int32) (x3 : Int32) (x4 : Int32) (S : Mem) : Option (Unit × Mem) :=
  b2 (f_X3_writeSets fu k x1 x2 x3 x4 S) (fun _ S6 => b2 (f_X3_makePlan fu k S6) (fun _ S10 => some ((), S10)))
def f_X3_flowOf (fu : Nat) (k : Nat) (x1 : Int32) (S : Mem) : Option Int32 :=
  b1 (f_X7_read fu 13 4 k x1 S) (fun r5 => some r5)
def f_X3_changeFlow (fu : Nat) (k : Nat) (x1 : Int32) (x2 : Int32) (S : Mem) : Option (Unit × Mem) :=
  b2 (f_X7_write fu 13 4 k x1 x2 S) (fun _ S6 => b2 (f_X3_makePlan fu k S6) (fun _ S10 => some ((), S10)))
def f_X3_haveOnePhase_40 (fu : Nat) (K2 : Int32 → Option Int32) (k : Nat) (x1 : Int32) (x2 : Int32) (S : Mem) (x3 : Int32) : Option Int32 :=
  K2 (x3 + 1)
def f_X3_haveOnePhase_2 (fu : Nat) (k : Nat) (x1 : Int32) (x2 : Int32) (S : Mem) : Nat → Int32 → Option Int32
  | 0, _ => none
  | n + 1, x3 => (if (S.1 3 k 7) ≤ x3 then some (nb 0) else b1 (f_X7_read fu 12 4 k x3 S) (fun r15 => b1 (f_X7_hasBit fu r15 x1 S) (fun r23 => (if r23 = 0 then f_X3_haveOnePhase_40 fu (f_X3_haveOnePhase_2 fu k x1 x2 S n) k x1 x2 S x3 else b1 (f_X7_hasBit fu r15 x2 S) (fun r32 => (if r32 = 0 then f_X3_haveOnePhase_40 fu (f_X3_haveOnePhase_2 fu k x1 x2 S n) k x1 x2 S x3 else some (nb 1)))))))
def f_X3_haveOnePhase (fu : Nat) (k : Nat) (x1 : Int32) (x2 : Int32) (S : Mem) : Option Int32 :=
  f_X3_haveOnePhase_2 fu k x1 x2 S fu 0
def f_X3_hasConflictIn_15 (fu : Nat) (k : Nat) (x1 : Int32) (S : Mem) (t0 : Int32) : Option Int32 :=
  some (nb t0)
def f_X3_hasConflictIn (fu : Nat) (k : Nat) (x1 : Int32) (S : Mem) : Option Int32 :=
  b1 (f_X3_greatestClearance fu k x1 x1 S) (fun r3 => (if r3 = (-1) then f_X3_hasConflictIn_15 fu k x1 S 0 else f_X3_hasConflictIn_15 fu k x1 S 1))
def f_X3_isLit (fu : Nat) (k : Nat) (x1 : Int32) (x2 : Int32) (S : Mem) : Option Int32 :=
  b1 (f_X3_isLitFrom fu k (S.1 3 k 9) x1 x2 S) (fun r7 => some (nb r7))
def f_X3_isLitTooSoon_3 (fu : Nat) (k : Nat) (x1 : Int32) (x2 : Int32) (x3 : Int32) (S : Mem) : Nat → Int32 → Option Int32
  | 0, _ => none
  | n + 1, x4 => (if x3 < x4 then some (nb 0) else b1 (f_X3_isLit fu k x1 (x2 + x4) S) (fun r15 => (if r15 = 0 then f_X3_isLitTooSoon_3 fu k x1 x2 x3 S n (x4 + 1) else some (nb 1))))
def f_X3_isLitTooSoon (fu : Nat) (k : Nat) (x1 : Int32) (x2 : Int32) (x3 : Int32) (S : Mem) : Option Int32 :=
  f_X3_isLitTooSoon_3 fu k x1 x2 x3 S fu 0
def f_X3_isBreached_40 (fu : Nat) (K9 : Int32 → Int32 → Option Int32) (k : Nat) (x1 : Int32) (S : Mem) (x2 : Int32) (x3 : Int32) : Option Int32 :=
  K9 x2 (x3 + 1)
def f_X3_isBreached_9 (fu : Nat) (K2 : Int32 → Option Int32) (k : Nat) (x1 : Int32) (S : Mem) : Nat → Int32 → Int32 → Option Int32
  | 0, _, _ => none
  | n + 1, x2, x3 => (if (4 : Int32) ≤ x3 then K2 (x2 + 1) else b1 (f_X3_isLit fu k x2 x1 S) (fun r17 => (if r17 = 0 then f_X3_isBreached_40 fu (f_X3_isBreached_9 fu K2 k x1 S n) k x1 S x2 x3 else b1 (f_X3_clearanceOf fu k x2 x3 S) (fun r29 => b1 (f_X3_isLitTooSoon fu k x3 x1 r29 S) (fun r32 => (if r32 = 0 then f_X3_isBreached_40 fu (f_X3_isBreached_9 fu K2 k x1 S n) k x1 S x2 x3 else some (nb 1)))))))
def f_X3_isBreached_2 (fu : Nat) (k : Nat) (x1 : Int32) (S : Mem) : Nat → Int32 → Option Int32
  | 0, _ => none
  | n + 1, x2 => (if (4 : Int32) ≤ x2 then some (nb 0) else f_X3_isBreached_9 fu (f_X3_isBreached_2 fu k x1 S n) k x1 S fu x2 0)
def f_X3_isBreached (fu : Nat) (k : Nat) (x1 : Int32) (S : Mem) : Option Int32 :=
  f_X3_isBreached_2 fu k x1 S fu 0
def f_X3_countBreaches_23 (fu : Nat) (K4 : Int32 → Int32 → Option Int32) (k : Nat) (S : Mem) (x1 : Int32) (x2 : Int32) : Option Int32 :=
  K4 x1 (x2 + 1)
def f_X3_countBreaches_4 (fu : Nat) (k : Nat) (S : Mem) : Nat → Int32 → Int32 → Option Int32
  | 0, _, _ => none
  | n + 1, x1, x2 => (if (S.1 3 k 8) ≤ x2 then some x1 else b1 (f_X3_isBreached fu k x2 S) (fun r14 => (if r14 = 0 then f_X3_countBreaches_23 fu (f_X3_countBreaches_4 fu k S n) k S x1 x2 else f_X3_countBreaches_23 fu (f_X3_countBreaches_4 fu k S n) k S (x1 + 1) x2)))
def f_X3_countBreaches (fu : Nat) (k : Nat) (S : Mem) : Option Int32 :=
  f_X3_countBreaches_4 fu k S fu 0 0
def f_X3_placeInCycle (fu : Nat) (k : Nat) (x1 : Int32) (S : Mem) : Option Int32 :=
  b1 (f_X7_modulo fu (x1 - (S.1 3 k 9)) (S.1 3 k 8) S) (fun r10 => some r10)
def f_X3_hasBusIn_13 (fu : Nat) (k : Nat) (x1 : Int32) (S : Mem) (t0 : Int32) : Option Int32 :=
  some (nb t0)
def f_X3_hasBusIn (fu : Nat) (k : Nat) (x1 : Int32) (S : Mem) : Option Int32 :=
  (if (S.1 3 k 13) ≤ x1 then f_X3_hasBusIn_13 fu k x1 S 0 else f_X3_hasBusIn_13 fu k x1 S 1)
def f_X3_changedGreen_32 (fu : Nat) (k : Nat) (x1 : Int32) (S : Mem) (t0 : Int32) : Option Int32 :=
  b1 (f_X7_read fu 14 4 k x1 S) (fun r38 => some (r38 + t0))
def f_X3_changedGreen (fu : Nat) (k : Nat) (x1 : Int32) (S : Mem) : Option Int32 :=
  (if x1 = (S.1 3 k 15) then f_X3_changedGreen_32 fu k x1 S (S.1 3 k 16) else (if x1 = (S.1 3 k 14) then f_X3_changedGreen_32 fu k x1 S (-(S.1 3 k 16)) else f_X3_changedGreen_32 fu k x1 S 0))
def f_X3_phaseIn_46 (fu : Nat) (K15 : Int32 → Int32 → Int32 → Option Int32) (k : Nat) (x1 : Int32) (S : Mem) (x2 : Int32) (x3 : Int32) (x4 : Int32) (t0 : Int32) : Option Int32 :=
  (if t0 ≤ x3 then b1 (f_X7_read fu 15 4 k x4 S) (fun r69 => (if r69 ≤ (x3 - t0) then b1 (f_X7_read fu 15 4 k x4 S) (fun r84 => K15 x2 ((x3 - t0) - r84) (x4 + 1)) else some (-1))) else some x4)
def f_X3_phaseIn_15 (fu : Nat) (k : Nat) (x1 : Int32) (S : Mem) : Nat → Int32 → Int32 → Int32 → Option Int32
  | 0, _, _, _ => none
  | n + 1, x2, x3, x4 => (if (S.1 3 k 7) ≤ x4 then some (-1) else (if x2 = 0 then b1 (f_X7_read fu 14 4 k x4 S) (fun r43 => f_X3_phaseIn_46 fu (f_X3_phaseIn_15 fu k x1 S n) k x1 S x2 x3 x4 r43) else b1 (f_X3_changedGreen fu k x4 S) (fun r31 => f_X3_phaseIn_46 fu (f_X3_phaseIn_15 fu k x1 S n) k x1 S x2 x3 x4 r31)))
def f_X3_phaseIn (fu : Nat) (k : Nat) (x1 : Int32) (S : Mem) : Option Int32 :=
  b1 (f_X3_hasBusIn fu k x1 S) (fun r2 => b1 (f_X3_placeInCycle fu k x1 S) (fun r8 => f_X3_phaseIn_15 fu k x1 S fu r2 r8 0))
def f_X3_lowestPhaseWith_2 (fu : Nat) (k : Nat) (x1 : Int32) (S : Mem) : Nat → Int32 → Option Int32
  | 0, _ => none
  | n + 1, x2 => (if (S.1 3 k 7) ≤ x2 then some (-1) else b1 (f_X7_read fu 12 4 k x2 S) (fun r15 => b1 (f_X7_hasBit fu r15 x1 S) (fun r19 => (if r19 = 0 then f_X3_lowestPhaseWith_2 fu k x1 S n (x2 + 1) else some x2))))
def f_X3_lowestPhaseWith (fu : Nat) (k : Nat) (x1 : Int32) (S : Mem) : Option Int32 :=
  f_X3_lowestPhaseWith_2 fu k x1 S fu 0
def f_X3_spareGreen (fu : Nat) (k : Nat) (x1 : Int32) (S : Mem) : Option Int32 :=
  b1 (f_X7_read fu 14 4 k x1 S) (fun r5 => b1 (f_X3_leastGreen fu k x1 S) (fun r10 => some (r5 - r10)))
def f_X3_secondsOfGreenBehind_12 (fu : Nat) (k : Nat) (x1 : Int32) (x2 : Int32) (S : Mem) : Nat → Int32 → Int32 → Option Int32
  | 0, _, _ => none
  | n + 1, x3, x4 => (if x1 ≤ x4 then b1 (f_X3_placeInCycle fu k x2 S) (fun r51 => some ((x3 - 1) - r51)) else b1 (f_X7_read fu 14 4 k x4 S) (fun r25 => b1 (f_X7_read fu 15 4 k x4 S) (fun r34 => f_X3_secondsOfGreenBehind_12 fu k x1 x2 S n (x3 + (r25 + r34)) (x4 + 1))))
def f_X3_secondsOfGreenBehind (fu : Nat) (k : Nat) (x1 : Int32) (x2 : Int32) (S : Mem) : Option Int32 :=
  b1 (f_X7_read fu 14 4 k x1 S) (fun r5 => f_X3_secondsOfGreenBehind_12 fu k x1 x2 S fu r5 0)
def f_X3_takeBus_134 (fu : Nat) (k : Nat) (x1 : Int32) (x2 : Int32) (S : Mem) : Option (Int32 × Mem) :=
  some ((S.1 3 k 16), S)
def f_X3_takeBus_86 (fu : Nat) (k : Nat) (x1 : Int32) (x2 : Int32) (x3 : Int32) (x4 : Int32) (S : Mem) : Option (Int32 × Mem) :=
  (if x4 = (-1) then f_X3_takeBus_134 fu k x1 x2 S else (if x3 ≤ x4 then f_X3_takeBus_134 fu k x1 x2 S else b1 (f_X3_secondsOfGreenBehind fu k x4 x1 (wI S 3 k 14 x4)) (fun r108 => b1 (f_X3_spareGreen fu k ((wI S 3 k 14 x4).1 3 k 14) (wI S 3 k 14 x4)) (fun r122 => f_X3_takeBus_134 fu k x1 x2 (wI (wI S 3 k 14 x4) 3 k 16 (jmin 5 (jmin r108 r122)))))))
def f_X3_takeBus (fu : Nat) (k : Nat) (x1 : Int32) (x2 : Int32) (S : Mem) : Option (Int32 × Mem) :=
  b1 (f_X3_lowestPhaseWith fu k x2 S) (fun r2 => b1 (f_X3_phaseIn fu k x1 S) (fun r8 => b1 (f_X3_placeInCycle fu k x1 S) (fun r17 => (if r8 = r2 then (if ((wI (wI (wI (wI S 3 k 13 ((x1 - r17) + (S.1 3 k 8))) 3 k 14 (-1)) 3 k 15 r2) 3 k 16 0).1 3 k 7) ≤ (r2 + 1) then f_X3_takeBus_86 fu k x1 x2 r2 r8 (wI (wI (wI (wI S 3 k 13 ((x1 - r17) + (S.1 3 k 8))) 3 k 14 (-1)) 3 k 15 r2) 3 k 16 0) else b1 (f_X3_spareGreen fu k ((wI (wI (wI (wI (wI S 3 k 13 ((x1 - r17) + (S.1 3 k 8))) 3 k 14 (-1)) 3 k 15 r2) 3 k 16 0) 3 k 14 (r2 + 1)).1 3 k 14) (wI (wI (wI (wI (wI S 3 k 13 ((x1 - r17) + (S.1 3 k 8))) 3 k 14 (-1)) 3 k 15 r2) 3 k 16 0) 3 k 14 (r2 + 1))) (fun r74 => f_X3_takeBus_134 fu k x1 x2 (wI (wI (wI (wI (wI (wI S 3 k 13 ((x1 - r17) + (S.1 3 k 8))) 3 k 14 (-1)) 3 k 15 r2) 3 k 16 0) 3 k 14 (r2 + 1)) 3 k 16 (jmin 5 r74)))) else f_X3_takeBus_86 fu k x1 x2 r2 r8 (wI (wI (wI (wI S 3 k 13 ((x1 - r17) + (S.1 3 k 8))) 3 k 14 (-1)) 3 k 15 r2) 3 k 16 0)))))
def f_X3_growReady_51 (fu : Nat) (k : Nat) (x1 : Int32) (t0 : Int32) (S : Mem) : Option (Unit × Mem) :=
  some ((), (wI S 3 k 12 t0))
def f_X3_growReady_31 (fu : Nat) (k : Nat) (x1 : Int32) (t0 : Int32) (S : Mem) : Option (Unit × Mem) :=
  (if t0 = 0 then f_X3_growReady_51 fu k x1 0 S else f_X3_growReady_51 fu k x1 (jmin 2 ((S.1 3 k 12) + 1)) S)
def f_X3_growReady_30 (fu : Nat) (k : Nat) (x1 : Int32) (S : Mem) : Option (Unit × Mem) :=
  f_X3_growReady_31 fu k x1 0 S
def f_X3_growReady (fu : Nat) (k : Nat) (x1 : Int32) (S : Mem) : Option (Unit × Mem) :=
  b1 (f_X3_phaseIn fu k x1 S) (fun r2 => (if r2 = (-1) then f_X3_growReady_30 fu k x1 S else b1 (f_X7_read fu 12 4 k r2 S) (fun r16 => b1 (f_X7_hasBit fu r16 0 S) (fun r20 => (if r20 = 0 then f_X3_growReady_30 fu k x1 S else f_X3_growReady_31 fu k x1 1 S)))))
def f_X4_send (fu : Nat) (k : Nat) (x1 : Int32) (S : Mem) : Option (Unit × Mem) :=
  b1 (f_X7_modulo fu (x1 + (S.1 4 k 1)) 61 S) (fun r8 => b1 (f_X7_read fu 17 61 k r8 S) (fun r22 => b2 (f_X7_write fu 17 61 k r8 (r22 + 1) S) (fun _ S27 => some ((), (wI S27 4 k 3 ((S27.1 4 k 3) + 1))))))
def f_X4_land (fu : Nat) (k : Nat) (x1 : Int32) (S : Mem) : Option (Int32 × Mem) :=
  b1 (f_X7_modulo fu x1 61 S) (fun r3 => b1 (f_X7_read fu 17 61 k r3 S) (fun r12 => b2 (f_X7_write fu 17 61 k r3 0 S) (fun _ S22 => some (r12, (wI S22 4 k 3 ((S22.1 4 k 3) - r12))))))
def f_X6_reset (fu : Nat) (S : Mem) : Option (Unit × Mem) :=
  some ((), (wI (wI (wI (wI (wI S 6 0 1 0) 6 0 2 0) 6 0 3 0) 6 0 4 0) 6 0 5 0))
def f_X6_letCome_56 (fu : Nat) (i1 : Nat) (S : Mem) : Option (Unit × Mem) :=
  some ((), S)
def f_X6_letCome (fu : Nat) (i1 : Nat) (S : Mem) : Option (Unit × Mem) :=
  b1 (f_X3_flowOf fu i1 0 S) (fun r7 => (if ((wI S 6 0 2 ((S.1 6 0 2) + r7)).1 6 0 2) < 3600 then f_X6_letCome_56 fu i1 (wI S 6 0 2 ((S.1 6 0 2) + r7)) else f_X6_letCome_56 fu i1 (wI (wI (wI (wI S 6 0 2 ((S.1 6 0 2) + r7)) 6 0 2 (((wI S 6 0 2 ((S.1 6 0 2) + r7)).1 6 0 2) - 3600)) 3 i1 11 (((wI (wI S 6 0 2 ((S.1 6 0 2) + r7)) 6 0 2 (((wI S 6 0 2 ((S.1 6 0 2) + r7)).1 6 0 2) - 3600)).1 3 i1 11) + 1)) 6 0 3 (((wI (wI (wI S 6 0 2 ((S.1 6 0 2) + r7)) 6 0 2 (((wI S 6 0 2 ((S.1 6 0 2) + r7)).1 6 0 2) - 3600)) 3 i1 11 (((wI (wI S 6 0 2 ((S.1 6 0 2) + r7)) 6 0 2 (((wI S 6 0 2 ((S.1 6 0 2) + r7)).1 6 0 2) - 3600)).1 3 i1 11) + 1)).1 6 0 3) + 1))))
def f_X6_hasRoomBehind_38 (fu : Nat) (x1 : Int32) (S : Mem) (t0 : Int32) : Option Int32 :=
  some (nb t0)
def f_X6_hasRoomBehind_33 (fu : Nat) (x1 : Int32) (S : Mem)  : Option Int32 :=
  f_X6_hasRoomBehind_38 fu x1 S 1
def f_X6_hasRoomBehind (fu : Nat) (x1 : Int32) (S : Mem) : Option Int32 :=
  b1 (f_X1_isLast fu x1 S) (fun r5 => (if r5 = 0 then b1 (f_X1_vehiclesOnLinkFrom fu x1 S) (fun r16 => b1 (f_X1_linkFrom fu x1 S) (fun r24 => (if (S.1 4 r24 2) ≤ r16 then f_X6_hasRoomBehind_38 fu x1 S 0 else f_X6_hasRoomBehind_33 fu x1 S))) else f_X6_hasRoomBehind_33 fu x1 S))
def f_X6_letLeave_59 (fu : Nat) (x1 : Int32) (S : Mem) : Option (Unit × Mem) :=
  some ((), S)
def f_X6_letLeave (fu : Nat) (x1 : Int32) (S : Mem) : Option (Unit × Mem) :=
  b1 (f_X1_at fu x1 S) (fun r5 => b1 (f_X1_isLast fu x1 (wI (wI S 3 r5 11 ((S.1 3 r5 11) - 1)) 3 r5 12 0)) (fun r29 => (if r29 = 0 then b2 (f_X4_send fu r5 ((wI (wI S 3 r5 11 ((S.1 3 r5 11) - 1)) 3 r5 12 0).1 6 0 1) (wI (wI S 3 r5 11 ((S.1 3 r5 11) - 1)) 3 r5 12 0)) (fun _ S56 => f_X6_letLeave_59 fu x1 S56) else f_X6_letLeave_59 fu x1 (wI (wI (wI S 3 r5 11 ((S.1 3 r5 11) - 1)) 3 r5 12 0) 6 0 4 (((wI (wI S 3 r5 11 ((S.1 3 r5 11) - 1)) 3 r5 12 0).1 6 0 4) + 1)))))
def f_X6_passSecond_96 (fu : Nat) (K2 : Int32 → Mem → Option (Unit × Mem)) (x1 : Int32) (S : Mem) : Option (Unit × Mem) :=
  K2 (x1 + 1) S
def f_X6_passSecond_60 (fu : Nat) (K2 : Int32 → Mem → Option (Unit × Mem)) (x1 : Int32) (x2 : Nat) (S : Mem) : Option (Unit × Mem) :=
  b2 (f_X3_growReady fu x2 (S.1 6 0 1) S) (fun _ S65 => (if (S65.1 3 x2 12) = 2 then (if (S65.1 3 x2 11) ≤ 0 then f_X6_passSecond_96 fu K2 x1 S65 else b1 (f_X6_hasRoomBehind fu x1 S65) (fun r85 => (if r85 = 0 then f_X6_passSecond_96 fu K2 x1 S65 else b2 (f_X6_letLeave fu x1 S65) (fun _ S93 => f_X6_passSecond_96 fu K2 x1 S93)))) else f_X6_passSecond_96 fu K2 x1 S65))
def f_X6_passSecond_2 (fu : Nat) : Nat → Int32 → Mem → Option (Unit × Mem)
  | 0, _, _ => none
  | n + 1, x1, S => (if (S.1 1 0 1) ≤ x1 then some ((), (wI S 6 0 1 ((S.1 6 0 1) + 1))) else b1 (f_X1_at fu x1 S) (fun r18 => (if x1 = 0 then b2 (f_X6_letCome fu r18 S) (fun _ S28 => f_X6_passSecond_60 fu (f_X6_passSecond_2 fu n) x1 r18 S28) else b1 (f_X1_linkFrom fu (x1 - 1) S) (fun r46 => b2 (f_X4_land fu r46 (S.1 6 0 1) S) (fun r53 S53 => f_X6_passSecond_60 fu (f_X6_passSecond_2 fu n) x1 r18 (wI S53 3 r18 11 ((S.1 3 r18 11) + r53)))))))
def f_X6_passSecond (fu : Nat) (S : Mem) : Option (Unit × Mem) :=
  f_X6_passSecond_2 fu fu 0 S
def f_X6_pass_12 (fu : Nat) (x1 : Int32) : Nat → Int32 → Int32 → Mem → Option (Int32 × Mem)
  | 0, _, _, _ => none
  | n + 1, x2, x3, S => (if x1 ≤ x3 then some (((S.1 6 0 4) - x2), S) else b2 (f_X6_passSecond fu S) (fun _ S18 => f_X6_pass_12 fu x1 n x2 (x3 + 1) S18))
def f_X6_pass (fu : Nat) (x1 : Int32) (S : Mem) : Option (Int32 × Mem) :=
  f_X6_pass_12 fu x1 fu (S.1 6 0 4) 0 (wI S 6 0 5 1)
def f_X7_junctions (fu : Nat) (S : Mem) : Option Int32 :=
  some (S.1 1 0 1)
def f_X7_clock (fu : Nat) (S : Mem) : Option Int32 :=
  some (S.1 6 0 1)
def f_X7_come (fu : Nat) (S : Mem) : Option Int32 :=
  some (S.1 6 0 3)
def f_X7_through (fu : Nat) (S : Mem) : Option Int32 :=
  some (S.1 6 0 4)
def f_X7_isOutside_15 (fu : Nat) (x0 : Int32) (x1 : Int32) (x2 : Int32) (S : Mem) (t0 : Int32) : Option Int32 :=
  some (nb t0)
def f_X7_isOutside_10 (fu : Nat) (x0 : Int32) (x1 : Int32) (x2 : Int32) (S : Mem)  : Option Int32 :=
  f_X7_isOutside_15 fu x0 x1 x2 S 1
def f_X7_isOutside (fu : Nat) (x0 : Int32) (x1 : Int32) (x2 : Int32) (S : Mem) : Option Int32 :=
  (if x0 < x1 then f_X7_isOutside_10 fu x0 x1 x2 S else (if x0 ≤ x2 then f_X7_isOutside_15 fu x0 x1 x2 S 0 else f_X7_isOutside_10 fu x0 x1 x2 S))
def f_X7_hasPlan (fu : Nat) (x1 : Int32) (S : Mem) : Option Int32 :=
  b1 (f_X1_at fu x1 S) (fun r5 => some (nb (S.1 3 r5 10)))
def f_X7_checkPhase_12 (fu : Nat) (i0 : Nat) (x1 : Int32) (S : Mem)  : Option Unit :=
  none
def f_X7_checkPhase (fu : Nat) (i0 : Nat) (x1 : Int32) (S : Mem) : Option Unit :=
  (if x1 < 0 then f_X7_checkPhase_12 fu i0 x1 S else (if x1 < (S.1 3 i0 7) then some () else f_X7_checkPhase_12 fu i0 x1 S))
def f_X7_clearing (fu : Nat) (x1 : Int32) (x2 : Int32) (S : Mem) : Option Int32 :=
  b1 (f_X1_at fu x1 S) (fun r5 => b1 (f_X7_checkPhase fu r5 x2 S) (fun _ => b1 (f_X7_read fu 15 4 r5 x2 S) (fun r19 => some r19)))
def f_X7_offset (fu : Nat) (x1 : Int32) (S : Mem) : Option Int32 :=
  b1 (f_X1_at fu x1 S) (fun r5 => some (S.1 3 r5 9))
def f_X7_checkMovement_9 (fu : Nat) (x0 : Int32) (S : Mem)  : Option Unit :=
  none
def f_X7_checkMovement (fu : Nat) (x0 : Int32) (S : Mem) : Option Unit :=
  (if x0 < 0 then f_X7_checkMovement_9 fu x0 S else (if x0 < 4 then some () else f_X7_checkMovement_9 fu x0 S))
def f_X7_checkPlan (fu : Nat) (i0 : Nat) (S : Mem) : Option Unit :=
  (if (S.1 3 i0 10) = 0 then none else some ())
def f_X7_isGreen (fu : Nat) (x1 : Int32) (x2 : Int32) (x3 : Int32) (S : Mem) : Option Int32 :=
  b1 (f_X1_at fu x1 S) (fun r5 => b1 (f_X7_checkMovement fu x2 S) (fun _ => b1 (f_X7_isOutside fu x3 0 100000 S) (fun r18 => (if r18 = 0 then b1 (f_X7_checkPlan fu r5 S) (fun _ => b1 (f_X3_isLit fu r5 x2 x3 S) (fun r43 => some (nb r43))) else none))))
def f_X7_breaches (fu : Nat) (x1 : Int32) (S : Mem) : Option Int32 :=
  b1 (f_X1_at fu x1 S) (fun r5 => b1 (f_X7_checkPlan fu r5 S) (fun _ => b1 (f_X3_countBreaches fu r5 S) (fun r14 => some r14)))
def f_X7_queue (fu : Nat) (x1 : Int32) (S : Mem) : Option Int32 :=
  b1 (f_X1_at fu x1 S) (fun r5 => some (S.1 3 r5 11))
def f_X7_held (fu : Nat) (x1 : Int32) (S : Mem) : Option Int32 :=
  b1 (f_X1_vehiclesOnLinkFrom fu x1 S) (fun r5 => some r5)

