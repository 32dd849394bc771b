def f_X1_at_30 (fu : Nat) (x1 : Int32) (S : Mem)  : Option Nat :=
  none
def f_X1_at (fu : Nat) (x1 : Int32) (S : Mem) : Option Nat :=
  (if x1 < 0 then f_X1_at_30 fu x1 S else (if (S.1 1 0 1) ≤ x1 then f_X1_at_30 fu x1 S else (if (nI 5) ≤ x1 then f_X1_at_30 fu x1 S else gd (inb x1 5) (gd (inb x1 5) (some ((x1 : Int32).toNatClampNeg))))))
def f_X1_secondsBetween_5 (fu : Nat) (x1 : Int32) (x2 : Int32) (S : Mem) : Nat → Int32 → Int32 → Option Int32
  | 0, _, _ => none
  | n + 1, x3, x4 => (if x2 ≤ x4 then some x3 else b1 (f_X1_at fu x4 S) (fun r15 => f_X1_secondsBetween_5 fu x1 x2 S n (x3 + (S.1 4 r15 1)) (x4 + 1)))
def f_X1_secondsBetween (fu : Nat) (x1 : Int32) (x2 : Int32) (S : Mem) : Option Int32 :=
  f_X1_secondsBetween_5 fu x1 x2 S fu 0 x1
def f_X5_clear (fu : Nat) (k : Nat) (S : Mem) : Option (Unit × Mem) :=
  some ((), (wL (wL S 5 k 0 0) 5 k 1 0))
def f_X2_clear (fu : Nat) (k : Nat) (S : Mem) : Option (Unit × Mem) :=
  b2 (f_X5_clear fu (2 * k) S) (fun _ S4 => b2 (f_X5_clear fu (2 * k + 1) S4) (fun _ S11 => some ((), S11)))
def f_X7_modulo_21 (fu : Nat) (x0 : Int32) (x1 : Int32) (S : Mem) (t0 : Int32) : Option Int32 :=
  some t0
def f_X7_modulo (fu : Nat) (x0 : Int32) (x1 : Int32) (S : Mem) : Option Int32 :=
  (if (0 : Int32) < x1 then gd (!(x1 == 0)) ((if (0 : Int32) ≤ (x0 - x0 / x1 * x1) then f_X7_modulo_21 fu x0 x1 S (x0 - x0 / x1 * x1) else f_X7_modulo_21 fu x0 x1 S ((x0 - x0 / x1 * x1) + x1))) else some 0)
def f_X7_read_17 (fu : Nat) (ck len k : Nat) (x1 : Int32) (S : Mem) (t0 : Int32) : Option Int32 :=
  some t0
def f_X7_read_16 (fu : Nat) (ck len k : Nat) (x1 : Int32) (S : Mem)  : Option Int32 :=
  f_X7_read_17 fu ck len k x1 S 0
def f_X7_read (fu : Nat) (ck len k : Nat) (x1 : Int32) (S : Mem) : Option Int32 :=
  (if x1 < 0 then f_X7_read_16 fu ck len k x1 S else (if (nI len) ≤ x1 then f_X7_read_16 fu ck len k x1 S else gd (inb x1 len) (f_X7_read_17 fu ck len k x1 S (S.1 ck k (x1 : Int32).toNatClampNeg))))
def f_X7_hasBit_13 (fu : Nat) (x0 : Int32) (x1 : Int32) (S : Mem) (t0 : Int32) : Option Int32 :=
  some (nb t0)
def f_X7_hasBit (fu : Nat) (x0 : Int32) (x1 : Int32) (S : Mem) : Option Int32 :=
  (if ((x0 >>> (x1 &&& 31)) &&& 1) = 0 then f_X7_hasBit_13 fu x0 x1 S 0 else f_X7_hasBit_13 fu x0 x1 S 1)
def f_X3_isLitFrom (fu : Nat) (k : Nat) (x1 : Int32) (x2 : Int32) (x3 : Int32) (S : Mem) : Option Int32 :=
  b1 (f_X7_modulo fu (x3 - x1) (S.1 3 k 8) S) (fun r11 => b1 (f_X7_read fu 16 90 k r11 S) (fun r14 => b1 (f_X7_hasBit fu r14 x2 S) (fun r18 => some (nb r18))))
def f_X5_add_36 (fu : Nat) (k : Nat) (x1 : Int32) (S : Mem) : Option (Unit × Mem) :=
  some ((), S)
def f_X5_add (fu : Nat) (k : Nat) (x1 : Int32) (S : Mem) : Option (Unit × Mem) :=
  (if (64 : Int32) ≤ x1 then f_X5_add_36 fu k x1 (wL S 5 k 1 ((S.2 5 k 1) ||| ((1 : Int64) <<< (((x1 - 64) : Int32).toInt64 &&& 63)))) else f_X5_add_36 fu k x1 (wL S 5 k 0 ((S.2 5 k 0) ||| ((1 : Int64) <<< ((x1 : Int32).toInt64 &&& 63)))))
def f_X0_fillFrom_107 (fu : Nat) (K47 : Nat → Int32 → Int32 → Int32 → Mem → Option (Unit × Mem)) (x1 : Int32) (x2 : Int32) (i3 : Nat) (x4 : Nat) (x5 : Int32) (x6 : Int32) (x7 : Int32) (S : Mem) : Option (Unit × Mem) :=
  K47 x4 x5 x6 (x7 + 1) S
def f_X0_fillFrom_83 (fu : Nat) (K47 : Nat → Int32 → Int32 → Int32 → Mem → Option (Unit × Mem)) (x1 : Int32) (x2 : Int32) (i3 : Nat) (x4 : Nat) (x5 : Int32) (x6 : Int32) (x7 : Int32) (S : Mem) : Option (Unit × Mem) :=
  b1 (f_X3_isLitFrom fu x4 x2 1 (x7 + x6) S) (fun r92 => (if r92 = 0 then f_X0_fillFrom_107 fu K47 x1 x2 i3 x4 x5 x6 x7 S else b2 (f_X5_add fu (2 * i3 + 1) x7 S) (fun _ S104 => f_X0_fillFrom_107 fu K47 x1 x2 i3 x4 x5 x6 x7 S104)))
def f_X0_fillFrom_47 (fu : Nat) (x1 : Int32) (x2 : Int32) (i3 : Nat) : Nat → Nat → Int32 → Int32 → Int32 → Mem → Option (Unit × Mem)
  | 0, _, _, _, _, _ => none
  | n + 1, x4, x5, x6, x7, S => (if (S.1 1 0 2) ≤ x7 then some ((), S) else b1 (f_X3_isLitFrom fu x4 x2 0 (x7 + x5) S) (fun r68 => (if r68 = 0 then f_X0_fillFrom_83 fu (f_X0_fillFrom_47 fu x1 x2 i3 n) x1 x2 i3 x4 x5 x6 x7 S else b2 (f_X5_add fu (2 * i3) x7 S) (fun _ S80 => f_X0_fillFrom_83 fu (f_X0_fillFrom_47 fu x1 x2 i3 n) x1 x2 i3 x4 x5 x6 x7 S80))))
def f_X0_fillFrom (fu : Nat) (x1 : Int32) (x2 : Int32) (i3 : Nat) (S : Mem) : Option (Unit × Mem) :=
  b1 (f_X1_at fu x1 S) (fun r5 => b1 (f_X1_secondsBetween fu 0 x1 S) (fun r16 => b1 (f_X1_secondsBetween fu x1 ((S.1 1 0 1) - 1) S) (fun r35 => b2 (f_X2_clear fu i3 S) (fun _ S41 => f_X0_fillFrom_47 fu x1 x2 i3 fu r5 r16 r35 0 S41))))
def f_X2_addAll_2 (fu : Nat) (k : Nat) (x1 : Int32) : Nat → Int32 → Mem → Option (Unit × Mem)
  | 0, _, _ => none
  | n + 1, x2, S => (if x1 ≤ x2 then some ((), S) else b2 (f_X5_add fu (2 * k) x2 S) (fun _ S12 => b2 (f_X5_add fu (2 * k + 1) x2 S12) (fun _ S20 => f_X2_addAll_2 fu k x1 n (x2 + 1) S20)))
def f_X2_addAll (fu : Nat) (k : Nat) (x1 : Int32) (S : Mem) : Option (Unit × Mem) :=
  f_X2_addAll_2 fu k x1 fu 0 S
def f_X5_becomeCommon (fu : Nat) (k : Nat) (i1 : Nat) (i2 : Nat) (S : Mem) : Option (Unit × Mem) :=
  some ((), (wL (wL S 5 k 0 ((S.2 5 i1 0) &&& (S.2 5 i2 0))) 5 k 1 (((wL S 5 k 0 ((S.2 5 i1 0) &&& (S.2 5 i2 0))).2 5 i1 1) &&& ((wL S 5 k 0 ((S.2 5 i1 0) &&& (S.2 5 i2 0))).2 5 i2 1))))
def f_X2_becomeCommon (fu : Nat) (k : Nat) (i1 : Nat) (i2 : Nat) (S : Mem) : Option (Unit × Mem) :=
  b2 (f_X5_becomeCommon fu (2 * k) (2 * i1) (2 * i2) S) (fun _ S12 => b2 (f_X5_becomeCommon fu (2 * k + 1) (2 * i1 + 1) (2 * i2 + 1) S12) (fun _ S27 => some ((), S27)))
def f_X0_fillCommon_74 (fu : Nat) (K23 : Int32 → Mem → Option (Unit × Mem)) (x1 : Int32) (x2 : Int32) (S : Mem) : Option (Unit × Mem) :=
  K23 (x2 + 1) S
def f_X0_fillCommon_23 (fu : Nat) (x1 : Int32) : Nat → Int32 → Mem → Option (Unit × Mem)
  | 0, _, _ => none
  | n + 1, x2, S => (if (S.1 1 0 1) ≤ x2 then some ((), S) else (if x2 = x1 then f_X0_fillCommon_74 fu (f_X0_fillCommon_23 fu x1 n) x1 x2 S else b1 (f_X1_at fu x2 S) (fun r46 => b2 (f_X0_fillFrom fu x2 (S.1 3 r46 9) 1 S) (fun _ S56 => b2 (f_X2_becomeCommon fu 0 0 1 S56) (fun _ S71 => f_X0_fillCommon_74 fu (f_X0_fillCommon_23 fu x1 n) x1 x2 S71)))))
def f_X0_fillCommon (fu : Nat) (x1 : Int32) (S : Mem) : Option (Unit × Mem) :=
  b2 (f_X2_clear fu 0 S) (fun _ S4 => b2 (f_X2_addAll fu 0 (S4.1 1 0 2) S4) (fun _ S18 => f_X0_fillCommon_23 fu x1 fu 0 S18))
def f_J13_bitCount_95d88 (fu : Nat) (x0 : Int64) (S : Mem) : Option Int32 :=
  some ((((((((((x0 - (((x0).toUInt64 >>> ((1 : Int32).toInt64.toUInt64 &&& Int64.toUInt64 63)).toInt64 &&& 6148914691236517205)) &&& 3689348814741910323) + ((((x0 - (((x0).toUInt64 >>> ((1 : Int32).toInt64.toUInt64 &&& Int64.toUInt64 63)).toInt64 &&& 6148914691236517205))).toUInt64 >>> ((2 : Int32).toInt64.toUInt64 &&& Int64.toUInt64 63)).toInt64 &&& 3689348814741910323)) + (((((x0 - (((x0).toUInt64 >>> ((1 : Int32).toInt64.toUInt64 &&& Int64.toUInt64 63)).toInt64 &&& 6148914691236517205)) &&& 3689348814741910323) + ((((x0 - (((x0).toUInt64 >>> ((1 : Int32).toInt64.toUInt64 &&& Int64.toUInt64 63)).toInt64 &&& 6148914691236517205))).toUInt64 >>> ((2 : Int32).toInt64.toUInt64 &&& Int64.toUInt64 63)).toInt64 &&& 3689348814741910323))).toUInt64 >>> ((4 : Int32).toInt64.toUInt64 &&& Int64.toUInt64 63)).toInt64) &&& 1085102592571150095) + (((((((x0 - (((x0).toUInt64 >>> ((1 : Int32).toInt64.toUInt64 &&& Int64.toUInt64 63)).toInt64 &&& 6148914691236517205)) &&& 3689348814741910323) + ((((x0 - (((x0).toUInt64 >>> ((1 : Int32).toInt64.toUInt64 &&& Int64.toUInt64 63)).toInt64 &&& 6148914691236517205))).toUInt64 >>> ((2 : Int32).toInt64.toUInt64 &&& Int64.toUInt64 63)).toInt64 &&& 3689348814741910323)) + (((((x0 - (((x0).toUInt64 >>> ((1 : Int32).toInt64.toUInt64 &&& Int64.toUInt64 63)).toInt64 &&& 6148914691236517205)) &&& 3689348814741910323) + ((((x0 - (((x0).toUInt64 >>> ((1 : Int32).toInt64.toUInt64 &&& Int64.toUInt64 63)).toInt64 &&& 6148914691236517205))).toUInt64 >>> ((2 : Int32).toInt64.toUInt64 &&& Int64.toUInt64 63)).toInt64 &&& 3689348814741910323))).toUInt64 >>> ((4 : Int32).toInt64.toUInt64 &&& Int64.toUInt64 63)).toInt64) &&& 1085102592571150095)).toUInt64 >>> ((8 : Int32).toInt64.toUInt64 &&& Int64.toUInt64 63)).toInt64) + ((((((((x0 - (((x0).toUInt64 >>> ((1 : Int32).toInt64.toUInt64 &&& Int64.toUInt64 63)).toInt64 &&& 6148914691236517205)) &&& 3689348814741910323) + ((((x0 - (((x0).toUInt64 >>> ((1 : Int32).toInt64.toUInt64 &&& Int64.toUInt64 63)).toInt64 &&& 6148914691236517205))).toUInt64 >>> ((2 : Int32).toInt64.toUInt64 &&& Int64.toUInt64 63)).toInt64 &&& 3689348814741910323)) + (((((x0 - (((x0).toUInt64 >>> ((1 : Int32).toInt64.toUInt64 &&& Int64.toUInt64 63)).toInt64 &&& 6148914691236517205)) &&& 3689348814741910323) + ((((x0 - (((x0).toUInt64 >>> ((1 : Int32).toInt64.toUInt64 &&& Int64.toUInt64 63)).toInt64 &&& 6148914691236517205))).toUInt64 >>> ((2 : Int32).toInt64.toUInt64 &&& Int64.toUInt64 63)).toInt64 &&& 3689348814741910323))).toUInt64 >>> ((4 : Int32).toInt64.toUInt64 &&& Int64.toUInt64 63)).toInt64) &&& 1085102592571150095) + (((((((x0 - (((x0).toUInt64 >>> ((1 : Int32).toInt64.toUInt64 &&& Int64.toUInt64 63)).toInt64 &&& 6148914691236517205)) &&& 3689348814741910323) + ((((x0 - (((x0).toUInt64 >>> ((1 : Int32).toInt64.toUInt64 &&& Int64.toUInt64 63)).toInt64 &&& 6148914691236517205))).toUInt64 >>> ((2 : Int32).toInt64.toUInt64 &&& Int64.toUInt64 63)).toInt64 &&& 3689348814741910323)) + (((((x0 - (((x0).toUInt64 >>> ((1 : Int32).toInt64.toUInt64 &&& Int64.toUInt64 63)).toInt64 &&& 6148914691236517205)) &&& 3689348814741910323) + ((((x0 - (((x0).toUInt64 >>> ((1 : Int32).toInt64.toUInt64 &&& Int64.toUInt64 63)).toInt64 &&& 6148914691236517205))).toUInt64 >>> ((2 : Int32).toInt64.toUInt64 &&& Int64.toUInt64 63)).toInt64 &&& 3689348814741910323))).toUInt64 >>> ((4 : Int32).toInt64.toUInt64 &&& Int64.toUInt64 63)).toInt64) &&& 1085102592571150095)).toUInt64 >>> ((8 : Int32).toInt64.toUInt64 &&& Int64.toUInt64 63)).toInt64)).toUInt64 >>> ((16 : Int32).toInt64.toUInt64 &&& Int64.toUInt64 63)).toInt64) + (((((((((x0 - (((x0).toUInt64 >>> ((1 : Int32).toInt64.toUInt64 &&& Int64.toUInt64 63)).toInt64 &&& 6148914691236517205)) &&& 3689348814741910323) + ((((x0 - (((x0).toUInt64 >>> ((1 : Int32).toInt64.toUInt64 &&& Int64.toUInt64 63)).toInt64 &&& 6148914691236517205))).toUInt64 >>> ((2 : Int32).toInt64.toUInt64 &&& Int64.toUInt64 63)).toInt64 &&& 3689348814741910323)) + (((((x0 - (((x0).toUInt64 >>> ((1 : Int32).toInt64.toUInt64 &&& Int64.toUInt64 63)).toInt64 &&& 6148914691236517205)) &&& 3689348814741910323) + ((((x0 - (((x0).toUInt64 >>> ((1 : Int32).toInt64.toUInt64 &&& Int64.toUInt64 63)).toInt64 &&& 6148914691236517205))).toUInt64 >>> ((2 : Int32).toInt64.toUInt64 &&& Int64.toUInt64 63)).toInt64 &&& 3689348814741910323))).toUInt64 >>> ((4 : Int32).toInt64.toUInt64 &&& Int64.toUInt64 63)).toInt64) &&& 1085102592571150095) + (((((((x0 - (((x0).toUInt64 >>> ((1 : Int32).toInt64.toUInt64 &&& Int64.toUInt64 63)).toInt64 &&& 6148914691236517205)) &&& 3689348814741910323) + ((((x0 - (((x0).toUInt64 >>> ((1 : Int32).toInt64.toUInt64 &&& Int64.toUInt64 63)).toInt64 &&& 6148914691236517205))).toUInt64 >>> ((2 : Int32).toInt64.toUInt64 &&& Int64.toUInt64 63)).toInt64 &&& 3689348814741910323)) + (((((x0 - (((x0).toUInt64 >>> ((1 : Int32).toInt64.toUInt64 &&& Int64.toUInt64 63)).toInt64 &&& 6148914691236517205)) &&& 3689348814741910323) + ((((x0 - (((x0).toUInt64 >>> ((1 : Int32).toInt64.toUInt64 &&& Int64.toUInt64 63)).toInt64 &&& 6148914691236517205))).toUInt64 >>> ((2 : Int32).toInt64.toUInt64 &&& Int64.toUInt64 63)).toInt64 &&& 3689348814741910323))).toUInt64 >>> ((4 : Int32).toInt64.toUInt64 &&& Int64.toUInt64 63)).toInt64) &&& 1085102592571150095)).toUInt64 >>> ((8 : Int32).toInt64.toUInt64 &&& Int64.toUInt64 63)).toInt64) + ((((((((x0 - (((x0).toUInt64 >>> ((1 : Int32).toInt64.toUInt64 &&& Int64.toUInt64 63)).toInt64 &&& 6148914691236517205)) &&& 3689348814741910323) + ((((x0 - (((x0).toUInt64 >>> ((1 : Int32).toInt64.toUInt64 &&& Int64.toUInt64 63)).toInt64 &&& 6148914691236517205))).toUInt64 >>> ((2 : Int32).toInt64.toUInt64 &&& Int64.toUInt64 63)).toInt64 &&& 3689348814741910323)) + (((((x0 - (((x0).toUInt64 >>> ((1 : Int32).toInt64.toUInt64 &&& Int64.toUInt64 63)).toInt64 &&& 6148914691236517205)) &&& 3689348814741910323) + ((((x0 - (((x0).toUInt64 >>> ((1 : Int32).toInt64.toUInt64 &&& Int64.toUInt64 63)).toInt64 &&& 6148914691236517205))).toUInt64 >>> ((2 : Int32).toInt64.toUInt64 &&& Int64.toUInt64 63)).toInt64 &&& 3689348814741910323))).toUInt64 >>> ((4 : Int32).toInt64.toUInt64 &&& Int64.toUInt64 63)).toInt64) &&& 1085102592571150095) + (((((((x0 - (((x0).toUInt64 >>> ((1 : Int32).toInt64.toUInt64 &&& Int64.toUInt64 63)).toInt64 &&& 6148914691236517205)) &&& 3689348814741910323) + ((((x0 - (((x0).toUInt64 >>> ((1 : Int32).toInt64.toUInt64 &&& Int64.toUInt64 63)).toInt64 &&& 6148914691236517205))).toUInt64 >>> ((2 : Int32).toInt64.toUInt64 &&& Int64.toUInt64 63)).toInt64 &&& 3689348814741910323)) + (((((x0 - (((x0).toUInt64 >>> ((1 : Int32).toInt64.toUInt64 &&& Int64.toUInt64 63)).toInt64 &&& 6148914691236517205)) &&& 3689348814741910323) + ((((x0 - (((x0).toUInt64 >>> ((1 : Int32).toInt64.toUInt64 &&& Int64.toUInt64 63)).toInt64 &&& 6148914691236517205))).toUInt64 >>> ((2 : Int32).toInt64.toUInt64 &&& Int64.toUInt64 63)).toInt64 &&& 3689348814741910323))).toUInt64 >>> ((4 : Int32).toInt64.toUInt64 &&& Int64.toUInt64 63)).toInt64) &&& 1085102592571150095)).toUInt64 >>> ((8 : Int32).toInt64.toUInt64 &&& Int64.toUInt64 63)).toInt64)).toUInt64 >>> ((16 : Int32).toInt64.toUInt64 &&& Int64.toUInt64 63)).toInt64)).toUInt64 >>> ((32 : Int32).toInt64.toUInt64 &&& Int64.toUInt64 63)).toInt64)).toInt32 &&& 127)
def f_X5_countCommon (fu : Nat) (k : Nat) (i1 : Nat) (S : Mem) : Option Int32 :=
  b1 (f_J13_bitCount_95d88 fu ((S.2 5 k 0) &&& (S.2 5 i1 0)) S) (fun r9 => b1 (f_J13_bitCount_95d88 fu ((S.2 5 k 1) &&& (S.2 5 i1 1)) S) (fun r21 => some (r9 + r21)))
def f_X0_width_26 (fu : Nat) (x1 : Int32) (t0 : Nat) (S : Mem) : Option (Int32 × Mem) :=
  b1 (f_X5_countCommon fu t0 t0 S) (fun r29 => some (r29, S))
def f_X0_width (fu : Nat) (x1 : Int32) (S : Mem) : Option (Int32 × Mem) :=
  b2 (f_X0_fillCommon fu (-1) S) (fun _ S2 => (if x1 = 0 then f_X0_width_26 fu x1 (2 * 0 + 1) S2 else f_X0_width_26 fu x1 (2 * 0) S2))
def f_X2_countCommon (fu : Nat) (k : Nat) (i1 : Nat) (S : Mem) : Option Int32 :=
  b1 (f_X5_countCommon fu (2 * k) (2 * i1) S) (fun r8 => b1 (f_X5_countCommon fu (2 * k + 1) (2 * i1 + 1) S) (fun r19 => some (r8 + r19)))
def f_X5_has_38 (fu : Nat) (k : Nat) (x1 : Int32) (S : Mem) (t0 : Int32) : Option Int32 :=
  some (nb t0)
def f_X5_has_24 (fu : Nat) (k : Nat) (x1 : Int32) (S : Mem) (t0 : Int64) : Option Int32 :=
  (if (lg_cmp (t0 &&& 1) 0) = 0 then f_X5_has_38 fu k x1 S 0 else f_X5_has_38 fu k x1 S 1)
def f_X5_has (fu : Nat) (k : Nat) (x1 : Int32) (S : Mem) : Option Int32 :=
  (if (64 : Int32) ≤ x1 then f_X5_has_24 fu k x1 S ((((S.2 5 k 1)).toUInt64 >>> (((x1 - 64) : Int32).toInt64.toUInt64 &&& Int64.toUInt64 63)).toInt64) else f_X5_has_24 fu k x1 S ((((S.2 5 k 0)).toUInt64 >>> ((x1 : Int32).toInt64.toUInt64 &&& Int64.toUInt64 63)).toInt64))
def f_X5_remove_44 (fu : Nat) (k : Nat) (x1 : Int32) (S : Mem) : Option (Unit × Mem) :=
  some ((), S)
def f_X5_remove (fu : Nat) (k : Nat) (x1 : Int32) (S : Mem) : Option (Unit × Mem) :=
  (if (64 : Int32) ≤ x1 then f_X5_remove_44 fu k x1 (wL S 5 k 1 ((S.2 5 k 1) &&& (((1 : Int64) <<< (((x1 - 64) : Int32).toInt64 &&& 63)) ^^^ (-1)))) else f_X5_remove_44 fu k x1 (wL S 5 k 0 ((S.2 5 k 0) &&& (((1 : Int64) <<< ((x1 : Int32).toInt64 &&& 63)) ^^^ (-1)))))
def f_X5_turn_15 (fu : Nat) (k : Nat) (x1 : Int32) (t0 : Int64) (S : Mem) : Option (Unit × Mem) :=
  b2 (f_X5_remove fu k x1 (wL (wL S 5 k 1 (((S.2 5 k 1) <<< ((1 : Int32).toInt64 &&& 63)) ||| (((S.2 5 k 0)).toUInt64 >>> ((63 : Int32).toInt64.toUInt64 &&& Int64.toUInt64 63)).toInt64)) 5 k 0 ((((wL S 5 k 1 (((S.2 5 k 1) <<< ((1 : Int32).toInt64 &&& 63)) ||| (((S.2 5 k 0)).toUInt64 >>> ((63 : Int32).toInt64.toUInt64 &&& Int64.toUInt64 63)).toInt64)).2 5 k 0) <<< ((1 : Int32).toInt64 &&& 63)) ||| t0))) (fun _ S48 => some ((), S48))
def f_X5_turn (fu : Nat) (k : Nat) (x1 : Int32) (S : Mem) : Option (Unit × Mem) :=
  b1 (f_X5_has fu k (x1 - 1) S) (fun r4 => (if r4 = 0 then f_X5_turn_15 fu k x1 0 S else f_X5_turn_15 fu k x1 1 S))
def f_X2_turn (fu : Nat) (k : Nat) (x1 : Int32) (S : Mem) : Option (Unit × Mem) :=
  b2 (f_X5_turn fu (2 * k) x1 S) (fun _ S5 => b2 (f_X5_turn fu (2 * k + 1) x1 S5) (fun _ S13 => some ((), S13)))
def f_X0_lowestBestOffset_41 (fu : Nat) (K6 : Int32 → Int32 → Int32 → Mem → Option (Int32 × Mem)) (x1 : Int32) (x2 : Int32) (x3 : Int32) (S : Mem) : Option (Int32 × Mem) :=
  b2 (f_X2_turn fu 1 (S.1 1 0 2) S) (fun _ S52 => K6 x1 x2 (x3 + 1) S52)
def f_X0_lowestBestOffset_6 (fu : Nat) : Nat → Int32 → Int32 → Int32 → Mem → Option (Int32 × Mem)
  | 0, _, _, _, _ => none
  | n + 1, x1, x2, x3, S => (if (S.1 1 0 2) ≤ x3 then some (x1, S) else b1 (f_X2_countCommon fu 0 1 S) (fun r25 => (if r25 ≤ x2 then f_X0_lowestBestOffset_41 fu (f_X0_lowestBestOffset_6 fu n) x1 x2 x3 S else f_X0_lowestBestOffset_41 fu (f_X0_lowestBestOffset_6 fu n) x3 r25 x3 S)))
def f_X0_lowestBestOffset (fu : Nat) (S : Mem) : Option (Int32 × Mem) :=
  f_X0_lowestBestOffset_6 fu fu 0 0 0 S
def f_X0_improveOffset_50 (fu : Nat) (x1 : Int32) (t0 : Int32) (S : Mem) : Option (Int32 × Mem) :=
  some (nb t0, S)
def f_X0_improveOffset (fu : Nat) (x1 : Int32) (S : Mem) : Option (Int32 × Mem) :=
  b1 (f_X1_at fu x1 S) (fun r5 => b2 (f_X0_fillCommon fu x1 S) (fun _ S16 => b2 (f_X0_fillFrom fu x1 0 1 S16) (fun _ S26 => b2 (f_X0_lowestBestOffset fu S26) (fun r31 S31 => (if ((wI S31 3 r5 9 r31).1 3 r5 9) = (S.1 3 r5 9) then f_X0_improveOffset_50 fu x1 0 (wI S31 3 r5 9 r31) else f_X0_improveOffset_50 fu x1 1 (wI S31 3 r5 9 r31))))))
def f_X0_improveOffsets_49 (fu : Nat) (S : Mem) : Option (Int32 × Mem) :=
  b2 (f_X0_fillCommon fu (-1) S) (fun _ S51 => b1 (f_X2_countCommon fu 0 0 S51) (fun r62 => some (r62, S51)))
def f_X0_improveOffsets_18 (fu : Nat) (K4 : Int32 → Int32 → Mem → Option (Int32 × Mem)) : Nat → Int32 → Int32 → Int32 → Mem → Option (Int32 × Mem)
  | 0, _, _, _, _ => none
  | n + 1, x1, x2, x3, S => (if (S.1 1 0 1) ≤ x3 then K4 x1 (x2 + 1) S else b2 (f_X0_improveOffset fu x3 S) (fun r32 S32 => f_X0_improveOffsets_18 fu K4 n (x1 ||| r32) x2 (x3 + 1) S32))
def f_X0_improveOffsets_4 (fu : Nat) : Nat → Int32 → Int32 → Mem → Option (Int32 × Mem)
  | 0, _, _, _ => none
  | n + 1, x1, x2, S => (if (10 : Int32) ≤ x2 then f_X0_improveOffsets_49 fu S else (if x1 = 0 then f_X0_improveOffsets_49 fu S else f_X0_improveOffsets_18 fu (f_X0_improveOffsets_4 fu n) fu 0 x2 1 S))
def f_X0_improveOffsets (fu : Nat) (S : Mem) : Option (Int32 × Mem) :=
  f_X0_improveOffsets_4 fu fu 1 0 S
def f_X0_greatestOverOffsets_5 (fu : Nat) (i1 : Nat) (i2 : Nat) : Nat → Int32 → Int32 → Mem → Option (Int32 × Mem)
  | 0, _, _, _ => none
  | n + 1, x3, x4, S => (if (S.1 1 0 2) ≤ x4 then some (x3, S) else b1 (f_X2_countCommon fu i1 i2 S) (fun r20 => b2 (f_X2_turn fu i2 (S.1 1 0 2) S) (fun _ S35 => f_X0_greatestOverOffsets_5 fu i1 i2 n (jmax x3 r20) (x4 + 1) S35)))
def f_X0_greatestOverOffsets (fu : Nat) (i1 : Nat) (i2 : Nat) (S : Mem) : Option (Int32 × Mem) :=
  f_X0_greatestOverOffsets_5 fu i1 i2 fu 0 0 S
def f_X0_bestOverAllOffsets_68 (fu : Nat) : Nat → Int32 → Int32 → Mem → Option (Int32 × Mem)
  | 0, _, _, _ => none
  | n + 1, x1, x2, S => (if (S.1 1 0 2) ≤ x2 then some (x1, S) else b2 (f_X2_becomeCommon fu 2 0 1 S) (fun _ S91 => b2 (f_X0_greatestOverOffsets fu 2 3 S91) (fun r104 S104 => b2 (f_X2_turn fu 1 (S104.1 1 0 2) S104) (fun _ S122 => f_X0_bestOverAllOffsets_68 fu n (jmax x1 r104) (x2 + 1) S122))))
def f_X0_bestOverAllOffsets (fu : Nat) (S : Mem) : Option (Int32 × Mem) :=
  b1 (f_X1_at fu 0 S) (fun r7 => b2 (f_X0_fillFrom fu 0 (S.1 3 r7 9) 0 S) (fun _ S17 => b2 (f_X0_fillFrom fu 1 0 1 S17) (fun _ S27 => (if (S27.1 1 0 1) = 2 then b2 (f_X0_greatestOverOffsets fu 0 1 S27) (fun r50 S50 => some (r50, S50)) else b2 (f_X0_fillFrom fu 2 0 3 S27) (fun _ S61 => f_X0_bestOverAllOffsets_68 fu fu 0 0 S61)))))
def f_J7_fill_53178_5 (fu : Nat) (ck len k : Nat) (x1 : Int32) : Nat → Int32 → Int32 → Mem → Option (Unit × Mem)
  | 0, _, _, _ => none
  | n + 1, x2, x3, S => (if x3 ≤ x2 then some ((), S) else gd (inb x2 len) (f_J7_fill_53178_5 fu ck len k x1 n (x2 + 1) x3 (wI S ck k (x2 : Int32).toNatClampNeg x1)))
def f_J7_fill_53178 (fu : Nat) (ck len k : Nat) (x1 : Int32) (S : Mem) : Option (Unit × Mem) :=
  f_J7_fill_53178_5 fu ck len k x1 fu 0 (nI len) S
def f_X4_reset (fu : Nat) (k : Nat) (S : Mem) : Option (Unit × Mem) :=
  b2 (f_J7_fill_53178 fu 17 61 k 0 (wI (wI (wI S 4 k 1 10) 4 k 2 20) 4 k 3 0)) (fun _ S22 => some ((), S22))
def f_X7_write_14 (fu : Nat) (ck len k : Nat) (x1 : Int32) (x2 : Int32) (S : Mem) : Option (Unit × Mem) :=
  some ((), S)
def f_X7_write (fu : Nat) (ck len k : Nat) (x1 : Int32) (x2 : Int32) (S : Mem) : Option (Unit × Mem) :=
  (if x1 < 0 then f_X7_write_14 fu ck len k x1 x2 S else (if (nI len) ≤ x1 then f_X7_write_14 fu ck len k x1 x2 S else gd (inb x1 len) (f_X7_write_14 fu ck len k x1 x2 (wI S ck k (x1 : Int32).toNatClampNeg x2))))
def f_X3_writeClearance (fu : Nat) (k : Nat) (x1 : Int32) (x2 : Int32) (x3 : Int32) (S : Mem) : Option (Unit × Mem) :=
  b2 (f_X7_write fu 11 16 k ((x1 * 4) + x2) x3 S) (fun _ S10 => b2 (f_X7_write fu 11 16 k ((x2 * 4) + x1) x3 S10) (fun _ S23 => some ((), S23)))
def f_X3_writeSets_64 (fu : Nat) (k : Nat) (x1 : Int32) (x2 : Int32) (x3 : Int32) (x4 : Int32) (t0 : Int32) (S : Mem) : Option (Unit × Mem) :=
  some ((), (wI S 3 k 7 t0))
def f_X3_writeSets (fu : Nat) (k : Nat) (x1 : Int32) (x2 : Int32) (x3 : Int32) (x4 : Int32) (S : Mem) : Option (Unit × Mem) :=
  b2 (f_X7_write fu 12 4 k 0 x1 S) (fun _ S6 => b2 (f_X7_write fu 12 4 k 1 x2 S6) (fun _ S15 => b2 (f_X7_write fu 12 4 k 2 x3 S15) (fun _ S24 => b2 (f_X7_write fu 12 4 k 3 x4 S24) (fun _ S34 => (if x2 = 0 then f_X3_writeSets_64 fu k x1 x2 x3 x4 1 S34 else (if x3 = 0 then f_X3_writeSets_64 fu k x1 x2 x3 x4 2 S34 else (if x4 = 0 then f_X3_writeSets_64 fu k x1 x2 x3 x4 3 S34 else f_X3_writeSets_64 fu k x1 x2 x3 x4 4 S34)))))))
def f_X3_clearanceOf (fu : Nat) (k : Nat) (x1 : Int32) (x2 : Int32) (S : Mem) : Option Int32 :=
  b1 (f_X7_read fu 11 16 k ((x1 * 4) + x2) S) (fun r9 => some r9)
def f_X3_greatestClearance_51 (fu : Nat) (K14 : Int32 → Int32 → Int32 → Option Int32) (k : Nat) (x1 : Int32) (x2 : Int32) (S : Mem) (x3 : Int32) (x4 : Int32) (x5 : Int32) : Option Int32 :=
  K14 x3 x4 (x5 + 1)
def f_X3_greatestClearance_14 (fu : Nat) (K5 : Int32 → Int32 → Option Int32) (k : Nat) (x1 : Int32) (x2 : Int32) (S : Mem) : Nat → Int32 → Int32 → Int32 → Option Int32
  | 0, _, _, _ => none
  | n + 1, x3, x4, x5 => (if (4 : Int32) ≤ x5 then K5 x3 (x4 + 1) else b1 (f_X7_hasBit fu x1 x4 S) (fun r23 => (if r23 = 0 then f_X3_greatestClearance_51 fu (f_X3_greatestClearance_14 fu K5 k x1 x2 S n) k x1 x2 S x3 x4 x5 else b1 (f_X7_hasBit fu x2 x5 S) (fun r32 => (if r32 = 0 then f_X3_greatestClearance_51 fu (f_X3_greatestClearance_14 fu K5 k x1 x2 S n) k x1 x2 S x3 x4 x5 else b1 (f_X3_clearanceOf fu k x4 x5 S) (fun r44 => f_X3_greatestClearance_51 fu (f_X3_greatestClearance_14 fu K5 k x1 x2 S n) k x1 x2 S (jmax x3 r44) x4 x5))))))
def f_X3_greatestClearance_5 (fu : Nat) (k : Nat) (x1 : Int32) (x2 : Int32) (S : Mem) : Nat → Int32 → Int32 → Option Int32
  | 0, _, _ => none
  | n + 1, x3, x4 => (if (4 : Int32) ≤ x4 then some x3 else f_X3_greatestClearance_14 fu (f_X3_greatestClearance_5 fu k x1 x2 S n) k x1 x2 S fu x3 x4 0)
def f_X3_greatestClearance (fu : Nat) (k : Nat) (x1 : Int32) (x2 : Int32) (S : Mem) : Option Int32 :=
  f_X3_greatestClearance_5 fu k x1 x2 S fu (-1) 0
def f_X3_leastGreen_21 (fu : Nat) (k : Nat) (x1 : Int32) (S : Mem) (t0 : Int32) : Option Int32 :=
  some t0
def f_X3_leastGreen (fu : Nat) (k : Nat) (x1 : Int32) (S : Mem) : Option Int32 :=
  b1 (f_X7_read fu 12 4 k x1 S) (fun r5 => b1 (f_X7_hasBit fu r5 3 S) (fun r9 => (if r9 = 0 then f_X3_leastGreen_21 fu k x1 S 5 else f_X3_leastGreen_21 fu k x1 S 8)))
def f_X3_weightOf_37 (fu : Nat) (K4 : Int32 → Int32 → Option Int32) (k : Nat) (x1 : Int32) (S : Mem) (x2 : Int32) (x3 : Int32) : Option Int32 :=
  K4 x2 (x3 + 1)
def f_X3_weightOf_4 (fu : Nat) (k : Nat) (x1 : Int32) (S : Mem) : Nat → Int32 → Int32 → Option Int32
  | 0, _, _ => none
  | n + 1, x2, x3 => (if (4 : Int32) ≤ x3 then some x2 else b1 (f_X7_read fu 12 4 k x1 S) (fun r14 => b1 (f_X7_hasBit fu r14 x3 S) (fun r18 => (if r18 = 0 then f_X3_weightOf_37 fu (f_X3_weightOf_4 fu k x1 S n) k x1 S x2 x3 else b1 (f_X7_read fu 13 4 k x3 S) (fun r30 => f_X3_weightOf_37 fu (f_X3_weightOf_4 fu k x1 S n) k x1 S (jmax x2 r30) x3)))))
def f_X3_weightOf (fu : Nat) (k : Nat) (x1 : Int32) (S : Mem) : Option Int32 :=
  f_X3_weightOf_4 fu k x1 S fu 0 0
def f_X7_share_11 (fu : Nat) (x0 : Int32) (x1 : Int32) (S : Mem) (t0 : Int32) : Option Int32 :=
  some t0
def f_X7_share (fu : Nat) (x0 : Int32) (x1 : Int32) (S : Mem) : Option Int32 :=
  (if x1 ≤ 0 then f_X7_share_11 fu x0 x1 S 0 else gd (!(x1 == 0)) (f_X7_share_11 fu x0 x1 S (x0 / x1)))
def f_X3_shareOut_116 (fu : Nat) (k : Nat) (x1 : Int32) (x2 : Int32) (S : Mem) : Option (Unit × Mem) :=
  some ((), S)
def f_X3_shareOut_75 (fu : Nat) (k : Nat) (x1 : Int32) (x2 : Int32) : Nat → Int32 → Int32 → Mem → Option (Unit × Mem)
  | 0, _, _, _ => none
  | n + 1, x3, x4, S => (if (S.1 3 k 7) ≤ x4 then f_X3_shareOut_116 fu k x1 x2 S else (if x3 ≤ x4 then f_X3_shareOut_116 fu k x1 x2 S else b1 (f_X7_read fu 14 4 k x4 S) (fun r102 => b2 (f_X7_write fu 14 4 k x4 (r102 + 1) S) (fun _ S107 => f_X3_shareOut_75 fu k x1 x2 n x3 (x4 + 1) S107))))
def f_X3_shareOut_41 (fu : Nat) (K5 : Int32 → Int32 → Mem → Option (Unit × Mem)) (k : Nat) (x1 : Int32) (x2 : Int32) (x3 : Int32) (x4 : Int32) (t0 : Int32) (S : Mem) : Option (Unit × Mem) :=
  b1 (f_X3_leastGreen fu k x4 S) (fun r52 => b2 (f_X7_write fu 14 4 k x4 (r52 + t0) S) (fun _ S58 => K5 (x3 - t0) (x4 + 1) S58))
def f_X3_shareOut_5 (fu : Nat) (k : Nat) (x1 : Int32) (x2 : Int32) : Nat → Int32 → Int32 → Mem → Option (Unit × Mem)
  | 0, _, _, _ => none
  | n + 1, x3, x4, S => (if (S.1 3 k 7) ≤ x4 then f_X3_shareOut_75 fu k x1 x2 fu x3 0 S else (if x2 = 0 then b1 (f_X7_share fu x1 (S.1 3 k 7) S) (fun r23 => f_X3_shareOut_41 fu (f_X3_shareOut_5 fu k x1 x2 n) k x1 x2 x3 x4 r23 S) else b1 (f_X3_weightOf fu k x4 S) (fun r33 => b1 (f_X7_share fu (x1 * r33) x2 S) (fun r38 => f_X3_shareOut_41 fu (f_X3_shareOut_5 fu k x1 x2 n) k x1 x2 x3 x4 r38 S))))
def f_X3_shareOut (fu : Nat) (k : Nat) (x1 : Int32) (x2 : Int32) (S : Mem) : Option (Unit × Mem) :=
  f_X3_shareOut_5 fu k x1 x2 fu x1 0 S
def f_X3_drawLights_69 (fu : Nat) (K38 : Int32 → Int32 → Int32 → Int32 → Mem → Option (Unit × Mem)) (k : Nat) (x2 : Int32) (x3 : Int32) (x4 : Int32) (x5 : Int32) (t0 : Int32) (t1 : Int32) (S : Mem) : Option (Unit × Mem) :=
  b2 (f_X7_write fu 16 90 k t1 t0 S) (fun _ S69 => K38 x2 x3 x4 (x5 + 1) S69)
def f_X3_drawLights_38 (fu : Nat) (K4 : Int32 → Int32 → Mem → Option (Unit × Mem)) (k : Nat) : Nat → Int32 → Int32 → Int32 → Int32 → Mem → Option (Unit × Mem)
  | 0, _, _, _, _, _ => none
  | n + 1, x2, x3, x4, x5, S => (if x4 ≤ x5 then K4 x4 (x2 + 1) S else (if x3 ≤ x5 then f_X3_drawLights_69 fu (f_X3_drawLights_38 fu K4 k n) k x2 x3 x4 x5 0 x5 S else b1 (f_X7_read fu 12 4 k x2 S) (fun r62 => f_X3_drawLights_69 fu (f_X3_drawLights_38 fu K4 k n) k x2 x3 x4 x5 r62 x5 S)))
def f_X3_drawLights_4 (fu : Nat) (k : Nat) : Nat → Int32 → Int32 → Mem → Option (Unit × Mem)
  | 0, _, _, _ => none
  | n + 1, x1, x2, S => (if (S.1 3 k 7) ≤ x2 then some ((), S) else b1 (f_X7_read fu 14 4 k x2 S) (fun r18 => b1 (f_X7_read fu 15 4 k x2 S) (fun r29 => f_X3_drawLights_38 fu (f_X3_drawLights_4 fu k n) k fu x2 (x1 + r18) ((x1 + r18) + r29) x1 S)))
def f_X3_drawLights (fu : Nat) (k : Nat) (S : Mem) : Option (Unit × Mem) :=
  f_X3_drawLights_4 fu k fu 0 0 S
def f_X3_makePlan_128 (fu : Nat) (k : Nat) (S : Mem) : Option (Unit × Mem) :=
  some ((), S)
def f_X3_makePlan_108 (fu : Nat) (k : Nat) (x1 : Int32) (x2 : Int32) (t0 : Int32) (S : Mem) : Option (Unit × Mem) :=
  gd (nb t0 == t0) ((if ((wI S 3 k 10 t0).1 3 k 10) = 0 then f_X3_makePlan_128 fu k (wI S 3 k 10 t0) else b2 (f_X3_shareOut fu k x1 x2 (wI S 3 k 10 t0)) (fun _ S121 => b2 (f_X3_drawLights fu k S121) (fun _ S125 => f_X3_makePlan_128 fu k S125))))
def f_X3_makePlan_34 (fu : Nat) (K9 : Int32 → Int32 → Int32 → Mem → Option (Unit × Mem)) (k : Nat) (x1 : Int32) (x2 : Int32) (x3 : Int32) (t0 : Int32) (S : Mem) : Option (Unit × Mem) :=
  b1 (f_X7_read fu 12 4 k x3 S) (fun r43 => b1 (f_X7_read fu 12 4 k t0 S) (fun r52 => b1 (f_X3_greatestClearance fu k r43 r52 S) (fun r55 => b2 (f_X7_write fu 15 4 k x3 (jmax 0 r55) S) (fun _ S70 => b1 (f_X3_leastGreen fu k x3 S70) (fun r78 => b1 (f_X3_weightOf fu k x3 S70) (fun r87 => K9 (x1 - ((jmax 0 r55) + r78)) (x2 + r87) (x3 + 1) S70))))))
def f_X3_makePlan_9 (fu : Nat) (k : Nat) : Nat → Int32 → Int32 → Int32 → Mem → Option (Unit × Mem)
  | 0, _, _, _, _ => none
  | n + 1, x1, x2, x3, S => (if (S.1 3 k 7) ≤ x3 then (if x1 < 0 then f_X3_makePlan_108 fu k x1 x2 0 S else f_X3_makePlan_108 fu k x1 x2 1 S) else (if (S.1 3 k 7) ≤ (x3 + 1) then f_X3_makePlan_34 fu (f_X3_makePlan_9 fu k n) k x1 x2 x3 0 S else f_X3_makePlan_34 fu (f_X3_makePlan_9 fu k n) k x1 x2 x3 (x3 + 1) S))
def f_X3_makePlan (fu : Nat) (k : Nat) (S : Mem) : Option (Unit × Mem) :=
  f_X3_makePlan_9 fu k fu (S.1 3 k 8) 0 0 S
def f_X3_reset (fu : Nat) (k : Nat) (x1 : Int32) (S : Mem) : Option (Unit × Mem) :=
  b2 (f_X4_reset fu k (wI (wI (wI (wI (wI (wI (wI (wI S 3 k 8 x1) 3 k 9 0) 3 k 11 0) 3 k 12 0) 3 k 13 0) 3 k 14 (-1)) 3 k 15 (-1)) 3 k 16 0)) (fun _ S44 => b2 (f_J7_fill_53178 fu 13 4 k 0 S44) (fun _ S52 => b2 (f_J7_fill_53178 fu 11 16 k (-1) S52) (fun _ S60 => b2 (f_X3_writeClearance fu k 0 2 3 S60) (fun _ S67 => b2 (f_X3_writeClearance fu k 0 3 3 S67) (fun _ S74 => b2 (f_X3_writeClearance fu k 1 2 3 S74) (fun _ S81 => b2 (f_X3_writeClearance fu k 1 3 3 S81) (fun _ S88 => b2 (f_X3_writeSets fu k 3 12 0 0 S88) (fun _ S97 => b2 (f_X3_makePlan fu k S97) (fun _ S101 => some ((), S101))))))))))
def f_X1_reset_12 (fu : Nat) (x1 : Int32) (x2 : Int32) : Nat → Int32 → Mem → Option (Unit × Mem)
  | 0, _, _ => none
  | n + 1, x3, S => (if (S.1 1 0 1) ≤ x3 then some ((), S) else b1 (f_X1_at fu x3 S) (fun r22 => b2 (f_X3_reset fu r22 x2 S) (fun _ S26 => f_X1_reset_12 fu x1 x2 n (x3 + 1) S26)))
def f_X1_reset (fu : Nat) (x1 : Int32) (x2 : Int32) (S : Mem) : Option (Unit × Mem) :=
  f_X1_reset_12 fu x1 x2 fu 0 (wI (wI S 1 0 1 x1) 1 0 2 x2)
def f_X1_isLast_15 (fu : Nat) (x1 : Int32) (S : Mem) (t0 : Int32) : Option Int32 :=
  some (nb t0)
def f_X1_isLast (fu : Nat) (x1 : Int32) (S : Mem) : Option Int32 :=
  (if x1 = ((S.1 1 0 1) - 1) then f_X1_isLast_15 fu x1 S 1 else f_X1_isLast_15 fu x1 S 0)
def f_X1_linkFrom (fu : Nat) (x1 : Int32) (S : Mem) : Option Nat :=
  b1 (f_X1_at fu x1 S) (fun r2 => b1 (f_X1_isLast fu x1 S) (fun r8 => (if r8 = 0 then some r2 else none)))
def f_X1_vehiclesOnLinkFrom (fu : Nat) (x1 : Int32) (S : Mem) : Option Int32 :=
  b1 (f_X1_linkFrom fu x1 S) (fun r2 => b1 (f_X1_at fu (x1 + 1) S) (fun r12 => some ((S.1 4 r2 3) + (S.1 3 r12 11))))
def f_X1_isPlanned_2 (fu : Nat) (S : Mem) : Nat → Int32 → Option Int32
  | 0, _ => none
  | n + 1, x1 => (if (S.1 1 0 1) ≤ x1 then some (nb 1) else b1 (f_X1_at fu x1 S) (fun r12 => (if (S.1 3 r12 10) = 0 then some (nb 0) else f_X1_isPlanned_2 fu S n (x1 + 1))))
def f_X1_isPlanned (fu : Nat) (S : Mem) : Option Int32 :=
  f_X1_isPlanned_2 fu S fu 0
def f_X3_changeClearance (fu : Nat) (k : Nat) (x1 : Int32) (x2 : Int32) (x3 : Int32) (S : Mem) : Option (Unit × Mem) :=
  b2 (f_X3_writeClearance fu k x1 x2 x3 S) (fun _ S4 => b2 (f_X3_makePlan fu k S4) (fun _ S8 => some ((), S8)))
def f_X3_changePhases (fu : Nat) (k : Nat) (x1 : Int32) (x2 : Int32) (x3 : Int32) (x4 : Int32) (S : Mem) : Option (Unit × Mem) :=
  b2 (f_X3_writeSets fu k x1 x2 x3 x4 S) (fun _ S6 => b2 (f_X3_makePlan fu k S6) (fun _ S10 => some ((), S10)))
def f_X3_flowOf (fu : Nat) (k : Nat) (x1 : Int32) (S : Mem) : Option Int32 :=
  b1 (f_X7_read fu 13 4 k x1 S) (fun r5 => some r5)
def f_X3_changeFlow (fu : Nat) (k : Nat) (x1 : Int32) (x2 : Int32) (S : Mem) : Option (Unit × Mem) :=
  b2 (f_X7_write fu 13 4 k x1 x2 S) (fun _ S6 => b2 (f_X3_makePlan fu k S6) (fun _ S10 => some ((), S10)))
def f_X3_haveOnePhase_40 (fu : Nat) (K2 : Int32 → Option Int32) (k : Nat) (x1 : Int32) (x2 : Int32) (S : Mem) (x3 : Int32) : Option Int32 :=
  K2 (x3 + 1)
def f_X3_haveOnePhase_2 (fu : Nat) (k : Nat) (x1 : Int32) (x2 : Int32) (S : Mem) : Nat → Int32 → Option Int32
  | 0, _ => none
  | n + 1, x3 => (if (S.1 3 k 7) ≤ x3 then some (nb 0) else b1 (f_X7_read fu 12 4 k x3 S) (fun r15 => b1 (f_X7_hasBit fu r15 x1 S) (fun r23 => (if r23 = 0 then f_X3_haveOnePhase_40 fu (f_X3_haveOnePhase_2 fu k x1 x2 S n) k x1 x2 S x3 else b1 (f_X7_hasBit fu r15 x2 S) (fun r32 => (if r32 = 0 then f_X3_haveOnePhase_40 fu (f_X3_haveOnePhase_2 fu k x1 x2 S n) k x1 x2 S x3 else some (nb 1)))))))
def f_X3_haveOnePhase (fu : Nat) (k : Nat) (x1 : Int32) (x2 : Int32) (S : Mem) : Option Int32 :=
  f_X3_haveOnePhase_2 fu k x1 x2 S fu 0
def f_X3_hasConflictIn_15 (fu : Nat) (k : Nat) (x1 : Int32) (S : Mem) (t0 : Int32) : Option Int32 :=
  some (nb t0)
def f_X3_hasConflictIn (fu : Nat) (k : Nat) (x1 : Int32) (S : Mem) : Option Int32 :=
  b1 (f_X3_greatestClearance fu k x1 x1 S) (fun r3 => (if r3 = (-1) then f_X3_hasConflictIn_15 fu k x1 S 0 else f_X3_hasConflictIn_15 fu k x1 S 1))
def f_X3_isLit (fu : Nat) (k : Nat) (x1 : Int32) (x2 : Int32) (S : Mem) : Option Int32 :=
  b1 (f_X3_isLitFrom fu k (S.1 3 k 9) x1 x2 S) (fun r7 => some (nb r7))
def f_X3_isLitTooSoon_3 (fu : Nat) (k : Nat) (x1 : Int32) (x2 : Int32) (x3 : Int32) (S : Mem) : Nat → Int32 → Option Int32
  | 0, _ => none
  | n + 1, x4 => (if x3 < x4 then some (nb 0) else b1 (f_X3_isLit fu k x1 (x2 + x4) S) (fun r15 => (if r15 = 0 then f_X3_isLitTooSoon_3 fu k x1 x2 x3 S n (x4 + 1) else some (nb 1))))
def f_X3_isLitTooSoon (fu : Nat) (k : Nat) (x1 : Int32) (x2 : Int32) (x3 : Int32) (S : Mem) : Option Int32 :=
  f_X3_isLitTooSoon_3 fu k x1 x2 x3 S fu 0
def f_X3_isBreached_40 (fu : Nat) (K9 : Int32 → Int32 → Option Int32) (k : Nat) (x1 : Int32) (S : Mem) (x2 : Int32) (x3 : Int32) : Option Int32 :=
  K9 x2 (x3 + 1)
def f_X3_isBreached_9 (fu : Nat) (K2 : Int32 → Option Int32) (k : Nat) (x1 : Int32) (S : Mem) : Nat → Int32 → Int32 → Option Int32
  | 0, _, _ => none
  | n + 1, x2, x3 => (if (4 : Int32) ≤ x3 then K2 (x2 + 1) else b1 (f_X3_isLit fu k x2 x1 S) (fun r17 => (if r17 = 0 then f_X3_isBreached_40 fu (f_X3_isBreached_9 fu K2 k x1 S n) k x1 S x2 x3 else b1 (f_X3_clearanceOf fu k x2 x3 S) (fun r29 => b1 (f_X3_isLitTooSoon fu k x3 x1 r29 S) (fun r32 => (if r32 = 0 then f_X3_isBreached_40 fu (f_X3_isBreached_9 fu K2 k x1 S n) k x1 S x2 x3 else some (nb 1)))))))
def f_X3_isBreached_2 (fu : Nat) (k : Nat) (x1 : Int32) (S : Mem) : Nat → Int32 → Option Int32
  | 0, _ => none
  | n + 1, x2 => (if (4 : Int32) ≤ x2 then some (nb 0) else f_X3_isBreached_9 fu (f_X3_isBreached_2 fu k x1 S n) k x1 S fu x2 0)
def f_X3_isBreached (fu : Nat) (k : Nat) (x1 : Int32) (S : Mem) : Option Int32 :=
  f_X3_isBreached_2 fu k x1 S fu 0
def f_X3_countBreaches_23 (fu : Nat) (K4 : Int32 → Int32 → Option Int32) (k : Nat) (S : Mem) (x1 : Int32) (x2 : Int32) : Option Int32 :=
  K4 x1 (x2 + 1)
def f_X3_countBreaches_4 (fu : Nat) (k : Nat) (S : Mem) : Nat → Int32 → Int32 → Option Int32
  | 0, _, _ => none
  | n + 1, x1, x2 => (if (S.1 3 k 8) ≤ x2 then some x1 else b1 (f_X3_isBreached fu k x2 S) (fun r14 => (if r14 = 0 then f_X3_countBreaches_23 fu (f_X3_countBreaches_4 fu k S n) k S x1 x2 else f_X3_countBreaches_23 fu (f_X3_countBreaches_4 fu k S n) k S (x1 + 1) x2)))
def f_X3_countBreaches (fu : Nat) (k : Nat) (S : Mem) : Option Int32 :=
  f_X3_countBreaches_4 fu k S fu 0 0
def f_X3_placeInCycle (fu : Nat) (k : Nat) (x1 : Int32) (S : Mem) : Option Int32 :=
  b1 (f_X7_modulo fu (x1 - (S.1 3 k 9)) (S.1 3 k 8) S) (fun r10 => some r10)
def f_X3_hasBusIn_13 (fu : Nat) (k : Nat) (x1 : Int32) (S : Mem) (t0 : Int32) : Option Int32 :=
  some (nb t0)
def f_X3_hasBusIn (fu : Nat) (k : Nat) (x1 : Int32) (S : Mem) : Option Int32 :=
  (if (S.1 3 k 13) ≤ x1 then f_X3_hasBusIn_13 fu k x1 S 0 else f_X3_hasBusIn_13 fu k x1 S 1)
def f_X3_changedGreen_32 (fu : Nat) (k : Nat) (x1 : Int32) (S : Mem) (t0 : Int32) : Option Int32 :=
  b1 (f_X7_read fu 14 4 k x1 S) (fun r38 => some (r38 + t0))
def f_X3_changedGreen (fu : Nat) (k : Nat) (x1 : Int32) (S : Mem) : Option Int32 :=
  (if x1 = (S.1 3 k 15) then f_X3_changedGreen_32 fu k x1 S (S.1 3 k 16) else (if x1 = (S.1 3 k 14) then f_X3_changedGreen_32 fu k x1 S (-(S.1 3 k 16)) else f_X3_changedGreen_32 fu k x1 S 0))
def f_X3_phaseIn_46 (fu : Nat) (K15 : Int32 → Int32 → Int32 → Option Int32) (k : Nat) (x1 : Int32) (S : Mem) (x2 : Int32) (x3 : Int32) (x4 : Int32) (t0 : Int32) : Option Int32 :=
  (if t0 ≤ x3 then b1 (f_X7_read fu 15 4 k x4 S) (fun r69 => (if r69 ≤ (x3 - t0) then b1 (f_X7_read fu 15 4 k x4 S) (fun r84 => K15 x2 ((x3 - t0) - r84) (x4 + 1)) else some (-1))) else some x4)
def f_X3_phaseIn_15 (fu : Nat) (k : Nat) (x1 : Int32) (S : Mem) : Nat → Int32 → Int32 → Int32 → Option Int32
  | 0, _, _, _ => none
  | n + 1, x2, x3, x4 => (if (S.1 3 k 7) ≤ x4 then some (-1) else (if x2 = 0 then b1 (f_X7_read fu 14 4 k x4 S) (fun r43 => f_X3_phaseIn_46 fu (f_X3_phaseIn_15 fu k x1 S n) k x1 S x2 x3 x4 r43) else b1 (f_X3_changedGreen fu k x4 S) (fun r31 => f_X3_phaseIn_46 fu (f_X3_phaseIn_15 fu k x1 S n) k x1 S x2 x3 x4 r31)))
def f_X3_phaseIn (fu : Nat) (k : Nat) (x1 : Int32) (S : Mem) : Option Int32 :=
  b1 (f_X3_hasBusIn fu k x1 S) (fun r2 => b1 (f_X3_placeInCycle fu k x1 S) (fun r8 => f_X3_phaseIn_15 fu k x1 S fu r2 r8 0))
def f_X3_lowestPhaseWith_2 (fu : Nat) (k : Nat) (x1 : Int32) (S : Mem) : Nat → Int32 → Option Int32
  | 0, _ => none
  | n + 1, x2 => (if (S.1 3 k 7) ≤ x2 then some (-1) else b1 (f_X7_read fu 12 4 k x2 S) (fun r15 => b1 (f_X7_hasBit fu r15 x1 S) (fun r19 => (if r19 = 0 then f_X3_lowestPhaseWith_2 fu k x1 S n (x2 + 1) else some x2))))
def f_X3_lowestPhaseWith (fu : Nat) (k : Nat) (x1 : Int32) (S : Mem) : Option Int32 :=
  f_X3_lowestPhaseWith_2 fu k x1 S fu 0
def f_X3_spareGreen (fu : Nat) (k : Nat) (x1 : Int32) (S : Mem) : Option Int32 :=
  b1 (f_X7_read fu 14 4 k x1 S) (fun r5 => b1 (f_X3_leastGreen fu k x1 S) (fun r10 => some (r5 - r10)))
def f_X3_secondsOfGreenBehind_12 (fu : Nat) (k : Nat) (x1 : Int32) (x2 : Int32) (S : Mem) : Nat → Int32 → Int32 → Option Int32
  | 0, _, _ => none
  | n + 1, x3, x4 => (if x1 ≤ x4 then b1 (f_X3_placeInCycle fu k x2 S) (fun r51 => some ((x3 - 1) - r51)) else b1 (f_X7_read fu 14 4 k x4 S) (fun r25 => b1 (f_X7_read fu 15 4 k x4 S) (fun r34 => f_X3_secondsOfGreenBehind_12 fu k x1 x2 S n (x3 + (r25 + r34)) (x4 + 1))))
def f_X3_secondsOfGreenBehind (fu : Nat) (k : Nat) (x1 : Int32) (x2 : Int32) (S : Mem) : Option Int32 :=
  b1 (f_X7_read fu 14 4 k x1 S) (fun r5 => f_X3_secondsOfGreenBehind_12 fu k x1 x2 S fu r5 0)
def f_X3_takeBus_134 (fu : Nat) (k : Nat) (x1 : Int32) (x2 : Int32) (S : Mem) : Option (Int32 × Mem) :=
  some ((S.1 3 k 16), S)
def f_X3_takeBus_86 (fu : Nat) (k : Nat) (x1 : Int32) (x2 : Int32) (x3 : Int32) (x4 : Int32) (S : Mem) : Option (Int32 × Mem) :=
  (if x4 = (-1) then f_X3_takeBus_134 fu k x1 x2 S else (if x3 ≤ x4 then f_X3_takeBus_134 fu k x1 x2 S else b1 (f_X3_secondsOfGreenBehind fu k x4 x1 (wI S 3 k 14 x4)) (fun r108 => b1 (f_X3_spareGreen fu k ((wI S 3 k 14 x4).1 3 k 14) (wI S 3 k 14 x4)) (fun r122 => f_X3_takeBus_134 fu k x1 x2 (wI (wI S 3 k 14 x4) 3 k 16 (jmin 5 (jmin r108 r122)))))))
def f_X3_takeBus (fu : Nat) (k : Nat) (x1 : Int32) (x2 : Int32) (S : Mem) : Option (Int32 × Mem) :=
  b1 (f_X3_lowestPhaseWith fu k x2 S) (fun r2 => b1 (f_X3_phaseIn fu k x1 S) (fun r8 => b1 (f_X3_placeInCycle fu k x1 S) (fun r17 => (if r8 = r2 then (if ((wI (wI (wI (wI S 3 k 13 ((x1 - r17) + (S.1 3 k 8))) 3 k 14 (-1)) 3 k 15 r2) 3 k 16 0).1 3 k 7) ≤ (r2 + 1) then f_X3_takeBus_86 fu k x1 x2 r2 r8 (wI (wI (wI (wI S 3 k 13 ((x1 - r17) + (S.1 3 k 8))) 3 k 14 (-1)) 3 k 15 r2) 3 k 16 0) else b1 (f_X3_spareGreen fu k ((wI (wI (wI (wI (wI S 3 k 13 ((x1 - r17) + (S.1 3 k 8))) 3 k 14 (-1)) 3 k 15 r2) 3 k 16 0) 3 k 14 (r2 + 1)).1 3 k 14) (wI (wI (wI (wI (wI S 3 k 13 ((x1 - r17) + (S.1 3 k 8))) 3 k 14 (-1)) 3 k 15 r2) 3 k 16 0) 3 k 14 (r2 + 1))) (fun r74 => f_X3_takeBus_134 fu k x1 x2 (wI (wI (wI (wI (wI (wI S 3 k 13 ((x1 - r17) + (S.1 3 k 8))) 3 k 14 (-1)) 3 k 15 r2) 3 k 16 0) 3 k 14 (r2 + 1)) 3 k 16 (jmin 5 r74)))) else f_X3_takeBus_86 fu k x1 x2 r2 r8 (wI (wI (wI (wI S 3 k 13 ((x1 - r17) + (S.1 3 k 8))) 3 k 14 (-1)) 3 k 15 r2) 3 k 16 0)))))
def f_X3_growReady_51 (fu : Nat) (k : Nat) (x1 : Int32) (t0 : Int32) (S : Mem) : Option (Unit × Mem) :=
  some ((), (wI S 3 k 12 t0))
def f_X3_growReady_31 (fu : Nat) (k : Nat) (x1 : Int32) (t0 : Int32) (S : Mem) : Option (Unit × Mem) :=
  (if t0 = 0 then f_X3_growReady_51 fu k x1 0 S else f_X3_growReady_51 fu k x1 (jmin 2 ((S.1 3 k 12) + 1)) S)
def f_X3_growReady_30 (fu : Nat) (k : Nat) (x1 : Int32) (S : Mem) : Option (Unit × Mem) :=
  f_X3_growReady_31 fu k x1 0 S
def f_X3_growReady (fu : Nat) (k : Nat) (x1 : Int32) (S : Mem) : Option (Unit × Mem) :=
  b1 (f_X3_phaseIn fu k x1 S) (fun r2 => (if r2 = (-1) then f_X3_growReady_30 fu k x1 S else b1 (f_X7_read fu 12 4 k r2 S) (fun r16 => b1 (f_X7_hasBit fu r16 0 S) (fun r20 => (if r20 = 0 then f_X3_growReady_30 fu k x1 S else f_X3_growReady_31 fu k x1 1 S)))))
def f_X4_send (fu : Nat) (k : Nat) (x1 : Int32) (S : Mem) : Option (Unit × Mem) :=
  b1 (f_X7_modulo fu (x1 + (S.1 4 k 1)) 61 S) (fun r8 => b1 (f_X7_read fu 17 61 k r8 S) (fun r22 => b2 (f_X7_write fu 17 61 k r8 (r22 + 1) S) (fun _ S27 => some ((), (wI S27 4 k 3 ((S27.1 4 k 3) + 1))))))
def f_X4_land (fu : Nat) (k : Nat) (x1 : Int32) (S : Mem) : Option (Int32 × Mem) :=
  b1 (f_X7_modulo fu x1 61 S) (fun r3 => b1 (f_X7_read fu 17 61 k r3 S) (fun r12 => b2 (f_X7_write fu 17 61 k r3 0 S) (fun _ S22 => some (r12, (wI S22 4 k 3 ((S22.1 4 k 3) - r12))))))
def f_X6_reset (fu : Nat) (S : Mem) : Option (Unit × Mem) :=
  some ((), (wI (wI (wI (wI (wI S 6 0 1 0) 6 0 2 0) 6 0 3 0) 6 0 4 0) 6 0 5 0))
def f_X6_letCome_56 (fu : Nat) (i1 : Nat) (S : Mem) : Option (Unit × Mem) :=
  some ((), S)
def f_X6_letCome (fu : Nat) (i1 : Nat) (S : Mem) : Option (Unit × Mem) :=
  b1 (f_X3_flowOf fu i1 0 S) (fun r7 => (if ((wI S 6 0 2 ((S.1 6 0 2) + r7)).1 6 0 2) < 3600 then f_X6_letCome_56 fu i1 (wI S 6 0 2 ((S.1 6 0 2) + r7)) else f_X6_letCome_56 fu i1 (wI (wI (wI (wI S 6 0 2 ((S.1 6 0 2) + r7)) 6 0 2 (((wI S 6 0 2 ((S.1 6 0 2) + r7)).1 6 0 2) - 3600)) 3 i1 11 (((wI (wI S 6 0 2 ((S.1 6 0 2) + r7)) 6 0 2 (((wI S 6 0 2 ((S.1 6 0 2) + r7)).1 6 0 2) - 3600)).1 3 i1 11) + 1)) 6 0 3 (((wI (wI (wI S 6 0 2 ((S.1 6 0 2) + r7)) 6 0 2 (((wI S 6 0 2 ((S.1 6 0 2) + r7)).1 6 0 2) - 3600)) 3 i1 11 (((wI (wI S 6 0 2 ((S.1 6 0 2) + r7)) 6 0 2 (((wI S 6 0 2 ((S.1 6 0 2) + r7)).1 6 0 2) - 3600)).1 3 i1 11) + 1)).1 6 0 3) + 1))))
def f_X6_hasRoomBehind_38 (fu : Nat) (x1 : Int32) (S : Mem) (t0 : Int32) : Option Int32 :=
  some (nb t0)
def f_X6_hasRoomBehind_33 (fu : Nat) (x1 : Int32) (S : Mem)  : Option Int32 :=
  f_X6_hasRoomBehind_38 fu x1 S 1
def f_X6_hasRoomBehind (fu : Nat) (x1 : Int32) (S : Mem) : Option Int32 :=
  b1 (f_X1_isLast fu x1 S) (fun r5 => (if r5 = 0 then b1 (f_X1_vehiclesOnLinkFrom fu x1 S) (fun r16 => b1 (f_X1_linkFrom fu x1 S) (fun r24 => (if (S.1 4 r24 2) ≤ r16 then f_X6_hasRoomBehind_38 fu x1 S 0 else f_X6_hasRoomBehind_33 fu x1 S))) else f_X6_hasRoomBehind_33 fu x1 S))
def f_X6_letLeave_59 (fu : Nat) (x1 : Int32) (S : Mem) : Option (Unit × Mem) :=
  some ((), S)
def f_X6_letLeave (fu : Nat) (x1 : Int32) (S : Mem) : Option (Unit × Mem) :=
  b1 (f_X1_at fu x1 S) (fun r5 => b1 (f_X1_isLast fu x1 (wI (wI S 3 r5 11 ((S.1 3 r5 11) - 1)) 3 r5 12 0)) (fun r29 => (if r29 = 0 then b2 (f_X4_send fu r5 ((wI (wI S 3 r5 11 ((S.1 3 r5 11) - 1)) 3 r5 12 0).1 6 0 1) (wI (wI S 3 r5 11 ((S.1 3 r5 11) - 1)) 3 r5 12 0)) (fun _ S56 => f_X6_letLeave_59 fu x1 S56) else f_X6_letLeave_59 fu x1 (wI (wI (wI S 3 r5 11 ((S.1 3 r5 11) - 1)) 3 r5 12 0) 6 0 4 (((wI (wI S 3 r5 11 ((S.1 3 r5 11) - 1)) 3 r5 12 0).1 6 0 4) + 1)))))
def f_X6_passSecond_96 (fu : Nat) (K2 : Int32 → Mem → Option (Unit × Mem)) (x1 : Int32) (S : Mem) : Option (Unit × Mem) :=
  K2 (x1 + 1) S
def f_X6_passSecond_60 (fu : Nat) (K2 : Int32 → Mem → Option (Unit × Mem)) (x1 : Int32) (x2 : Nat) (S : Mem) : Option (Unit × Mem) :=
  b2 (f_X3_growReady fu x2 (S.1 6 0 1) S) (fun _ S65 => (if (S65.1 3 x2 12) = 2 then (if (S65.1 3 x2 11) ≤ 0 then f_X6_passSecond_96 fu K2 x1 S65 else b1 (f_X6_hasRoomBehind fu x1 S65) (fun r85 => (if r85 = 0 then f_X6_passSecond_96 fu K2 x1 S65 else b2 (f_X6_letLeave fu x1 S65) (fun _ S93 => f_X6_passSecond_96 fu K2 x1 S93)))) else f_X6_passSecond_96 fu K2 x1 S65))
def f_X6_passSecond_2 (fu : Nat) : Nat → Int32 → Mem → Option (Unit × Mem)
  | 0, _, _ => none
  | n + 1, x1, S => (if (S.1 1 0 1) ≤ x1 then some ((), (wI S 6 0 1 ((S.1 6 0 1) + 1))) else b1 (f_X1_at fu x1 S) (fun r18 => (if x1 = 0 then b2 (f_X6_letCome fu r18 S) (fun _ S28 => f_X6_passSecond_60 fu (f_X6_passSecond_2 fu n) x1 r18 S28) else b1 (f_X1_linkFrom fu (x1 - 1) S) (fun r46 => b2 (f_X4_land fu r46 (S.1 6 0 1) S) (fun r53 S53 => f_X6_passSecond_60 fu (f_X6_passSecond_2 fu n) x1 r18 (wI S53 3 r18 11 ((S.1 3 r18 11) + r53)))))))
def f_X6_passSecond (fu : Nat) (S : Mem) : Option (Unit × Mem) :=
  f_X6_passSecond_2 fu fu 0 S
def f_X6_pass_12 (fu : Nat) (x1 : Int32) : Nat → Int32 → Int32 → Mem → Option (Int32 × Mem)
  | 0, _, _, _ => none
  | n + 1, x2, x3, S => (if x1 ≤ x3 then some (((S.1 6 0 4) - x2), S) else b2 (f_X6_passSecond fu S) (fun _ S18 => f_X6_pass_12 fu x1 n x2 (x3 + 1) S18))
def f_X6_pass (fu : Nat) (x1 : Int32) (S : Mem) : Option (Int32 × Mem) :=
  f_X6_pass_12 fu x1 fu (S.1 6 0 4) 0 (wI S 6 0 5 1)
def f_X7_junctions (fu : Nat) (S : Mem) : Option Int32 :=
  some (S.1 1 0 1)
def f_X7_clock (fu : Nat) (S : Mem) : Option Int32 :=
  some (S.1 6 0 1)
def f_X7_come (fu : Nat) (S : Mem) : Option Int32 :=
  some (S.1 6 0 3)
def f_X7_through (fu : Nat) (S : Mem) : Option Int32 :=
  some (S.1 6 0 4)
def f_X7_isOutside_15 (fu : Nat) (x0 : Int32) (x1 : Int32) (x2 : Int32) (S : Mem) (t0 : Int32) : Option Int32 :=
  some (nb t0)
def f_X7_isOutside_10 (fu : Nat) (x0 : Int32) (x1 : Int32) (x2 : Int32) (S : Mem)  : Option Int32 :=
  f_X7_isOutside_15 fu x0 x1 x2 S 1
def f_X7_isOutside (fu : Nat) (x0 : Int32) (x1 : Int32) (x2 : Int32) (S : Mem) : Option Int32 :=
  (if x0 < x1 then f_X7_isOutside_10 fu x0 x1 x2 S else (if x0 ≤ x2 then f_X7_isOutside_15 fu x0 x1 x2 S 0 else f_X7_isOutside_10 fu x0 x1 x2 S))
def f_X8_thrown (fu : Nat) (S : Mem) : Option Int32 :=
  some (S.1 8 0 0)
def f_X8_holds_14 (fu : Nat) (x1 : Int32) (t0 : Int32) (S : Mem) : Option (Int32 × Mem) :=
  some (nb t0, S)
def f_X8_holds (fu : Nat) (x1 : Int32) (S : Mem) : Option (Int32 × Mem) :=
  (if x1 = 0 then f_X8_holds_14 fu x1 1 (wI S 8 0 0 x1) else f_X8_holds_14 fu x1 0 (wI S 8 0 0 x1))
def f_X8_in_15 (fu : Nat) (x0 : Int32) (x1 : Int32) (x2 : Int32) (S : Mem) (t0 : Int32) : Option Int32 :=
  some (nb t0)
def f_X8_in_14 (fu : Nat) (x0 : Int32) (x1 : Int32) (x2 : Int32) (S : Mem)  : Option Int32 :=
  f_X8_in_15 fu x0 x1 x2 S 0
def f_X8_in (fu : Nat) (x0 : Int32) (x1 : Int32) (x2 : Int32) (S : Mem) : Option Int32 :=
  (if x0 < x1 then f_X8_in_14 fu x0 x1 x2 S else (if x2 < x0 then f_X8_in_14 fu x0 x1 x2 S else f_X8_in_15 fu x0 x1 x2 S 1))
def f_X8_has_14 (fu : Nat) (x0 : Int32) (x1 : Int32) (S : Mem) (t0 : Int32) : Option Int32 :=
  some (nb t0)
def f_X8_has (fu : Nat) (x0 : Int32) (x1 : Int32) (S : Mem) : Option Int32 :=
  (if ((x0 >>> (x1 &&& 31)) &&& 1) = 1 then f_X8_has_14 fu x0 x1 S 1 else f_X8_has_14 fu x0 x1 S 0)
def f_X8_isJunction (fu : Nat) (x1 : Int32) (S : Mem) : Option Int32 :=
  b1 (f_X8_in fu x1 0 ((S.1 8 0 1) - 1) S) (fun r8 => some (nb r8))
def f_X8_isMovement (fu : Nat) (x0 : Int32) (S : Mem) : Option Int32 :=
  b1 (f_X8_in fu x0 0 3 S) (fun r3 => some (nb r3))
def f_X8_isLink (fu : Nat) (x1 : Int32) (S : Mem) : Option Int32 :=
  b1 (f_X8_in fu x1 0 ((S.1 8 0 1) - 2) S) (fun r8 => some (nb r8))
def f_X8_conflict (fu : Nat) (x0 : Int32) (x1 : Int32) (x2 : Int32) (S : Mem) : Option Int32 :=
  some (((16 * x0) + (4 * x1)) + x2)
def f_X8_begins_187 (fu : Nat) (K142 : Int32 → Mem → Option (Unit × Mem)) (x1 : Int32) (x2 : Int32) (x3 : Int32) (t0 : Int32) (t1 : Int32) (S : Mem) : Option (Unit × Mem) :=
  gd (inb t1 80) (gd (!(4 == 0)) (gd (inb (x3 / 4) 20) (K142 (x3 + 1) (wI (wI S 20 0 (t1 : Int32).toNatClampNeg t0) 23 0 ((x3 / 4) : Int32).toNatClampNeg 0))))
def f_X8_begins_179 (fu : Nat) (K142 : Int32 → Mem → Option (Unit × Mem)) (x1 : Int32) (x2 : Int32) (x3 : Int32) (t0 : Int32) (t1 : Int32) (t2 : Int32) (S : Mem) : Option (Unit × Mem) :=
  (if t1 = t0 then f_X8_begins_187 fu K142 x1 x2 x3 (-1) t2 S else f_X8_begins_187 fu K142 x1 x2 x3 3 t2 S)
def f_X8_begins_167 (fu : Nat) (K142 : Int32 → Mem → Option (Unit × Mem)) (x1 : Int32) (x2 : Int32) (x3 : Int32) (t0 : Int32) (t1 : Int32) (S : Mem) : Option (Unit × Mem) :=
  gd (!(4 == 0)) ((if (2 : Int32) ≤ (x3 - x3 / 4 * 4) then f_X8_begins_179 fu K142 x1 x2 x3 0 t0 t1 S else f_X8_begins_179 fu K142 x1 x2 x3 1 t0 t1 S))
def f_X8_begins_142 (fu : Nat) (x1 : Int32) (x2 : Int32) : Nat → Int32 → Mem → Option (Unit × Mem)
  | 0, _, _ => none
  | n + 1, x3, S => (if (80 : Int32) ≤ x3 then some ((), S) else gd (!(4 == 0)) (gd (!(4 == 0)) ((if (2 : Int32) ≤ ((x3 / 4) - (x3 / 4) / 4 * 4) then f_X8_begins_167 fu (f_X8_begins_142 fu x1 x2 n) x1 x2 x3 0 x3 S else f_X8_begins_167 fu (f_X8_begins_142 fu x1 x2 n) x1 x2 x3 1 x3 S))))
def f_X8_begins_106 (fu : Nat) (x1 : Int32) (x2 : Int32) : Nat → Int32 → Mem → Option (Unit × Mem)
  | 0, _, _ => none
  | n + 1, x3, S => (if (4 : Int32) ≤ x3 then f_X8_begins_142 fu x1 x2 fu 0 S else gd (inb x3 4) (gd (inb x3 4) (gd (inb x3 4) (f_X8_begins_106 fu x1 x2 n (x3 + 1) (wI (wI (wI S 25 0 (x3 : Int32).toNatClampNeg 10) 26 0 (x3 : Int32).toNatClampNeg 20) 32 0 (x3 : Int32).toNatClampNeg 0)))))
def f_X8_begins_37 (fu : Nat) (x1 : Int32) (x2 : Int32) : Nat → Int32 → Mem → Option (Unit × Mem)
  | 0, _, _ => none
  | n + 1, x3, S => (if (5 : Int32) ≤ x3 then f_X8_begins_106 fu x1 x2 fu 0 S else gd (inb x3 5) (gd (inb (4 * x3) 20) (gd (inb ((4 * x3) + 1) 20) (gd (inb x3 5) (gd (inb x3 5) (gd (inb x3 5) (gd (inb x3 5) (f_X8_begins_37 fu x1 x2 n (x3 + 1) (wI (wI (wI (wI (wI (wI (wI S 22 0 (x3 : Int32).toNatClampNeg 2) 21 0 ((4 * x3) : Int32).toNatClampNeg 3) 21 0 (((4 * x3) + 1) : Int32).toNatClampNeg 12) 24 0 (x3 : Int32).toNatClampNeg 0) 30 0 (x3 : Int32).toNatClampNeg 0) 31 0 (x3 : Int32).toNatClampNeg 0) 34 0 (x3 : Int32).toNatClampNeg (nb 0))))))))))
def f_X8_begins (fu : Nat) (x1 : Int32) (x2 : Int32) (S : Mem) : Option (Unit × Mem) :=
  f_X8_begins_37 fu x1 x2 fu 0 (wI (wI (wI (wI (wI (wI (wI S 8 0 1 x1) 8 0 2 x2) 8 0 3 0) 8 0 14 0) 8 0 15 0) 8 0 16 0) 8 0 17 0)
def f_X8_begin_38 (fu : Nat) (x1 : Int32) (x2 : Int32) (S : Mem) : Option (Unit × Mem) :=
  some ((), S)
def f_X8_begin_26 (fu : Nat) (x1 : Int32) (x2 : Int32) (t0 : Int32) (S : Mem) : Option (Unit × Mem) :=
  b2 (f_X8_holds fu t0 S) (fun r26 S26 => (if r26 = 0 then f_X8_begin_38 fu x1 x2 S26 else b2 (f_X8_begins fu x1 x2 S26) (fun _ S35 => f_X8_begin_38 fu x1 x2 S35)))
def f_X8_begin_25 (fu : Nat) (x1 : Int32) (x2 : Int32) (S : Mem) : Option (Unit × Mem) :=
  f_X8_begin_26 fu x1 x2 1 S
def f_X8_begin (fu : Nat) (x1 : Int32) (x2 : Int32) (S : Mem) : Option (Unit × Mem) :=
  b1 (f_X8_in fu x1 2 5 S) (fun r4 => (if r4 = 0 then f_X8_begin_25 fu x1 x2 S else b1 (f_X8_in fu x2 30 90 S) (fun r15 => (if r15 = 0 then f_X8_begin_25 fu x1 x2 S else f_X8_begin_26 fu x1 x2 0 S))))
def f_X8_areIn_38 (fu : Nat) (x1 : Int32) (x2 : Int32) (x3 : Int32) (x4 : Int32) (S : Mem) (t0 : Int32) : Option Int32 :=
  some (nb t0)
def f_X8_areIn_37 (fu : Nat) (x1 : Int32) (x2 : Int32) (x3 : Int32) (x4 : Int32) (S : Mem)  : Option Int32 :=
  f_X8_areIn_38 fu x1 x2 x3 x4 S 0
def f_X8_areIn (fu : Nat) (x1 : Int32) (x2 : Int32) (x3 : Int32) (x4 : Int32) (S : Mem) : Option Int32 :=
  b1 (f_X8_has fu x2 x3 S) (fun r2 => (if r2 = 0 then f_X8_areIn_37 fu x1 x2 x3 x4 S else b1 (f_X8_has fu x2 x4 S) (fun r11 => (if r11 = 0 then f_X8_areIn_37 fu x1 x2 x3 x4 S else b1 (f_X8_conflict fu x1 x3 x4 S) (fun r25 => gd (inb r25 80) ((if (S.1 20 0 (r25 : Int32).toNatClampNeg) = (-1) then f_X8_areIn_37 fu x1 x2 x3 x4 S else f_X8_areIn_38 fu x1 x2 x3 x4 S 1)))))))
def f_X8_isBad_2 (fu : Nat) (x1 : Int32) (x2 : Int32) (S : Mem) : Nat → Int32 → Option Int32
  | 0, _ => none
  | n + 1, x3 => (if (16 : Int32) ≤ x3 then some (nb 0) else gd (!(4 == 0)) (gd (!(4 == 0)) (b1 (f_X8_areIn fu x1 x2 (x3 / 4) (x3 - x3 / 4 * 4) S) (fun r17 => (if r17 = 0 then f_X8_isBad_2 fu x1 x2 S n (x3 + 1) else some (nb 1))))))
def f_X8_isBad (fu : Nat) (x1 : Int32) (x2 : Int32) (S : Mem) : Option Int32 :=
  f_X8_isBad_2 fu x1 x2 S fu 0
def f_X8_errorOfConflict_133 (fu : Nat) (x1 : Int32) (x2 : Int32) (x3 : Int32) (x4 : Int32) (S : Mem) (t0 : Int32) : Option Int32 :=
  some t0
def f_X8_errorOfConflict_128 (fu : Nat) (x1 : Int32) (x2 : Int32) (x3 : Int32) (x4 : Int32) (S : Mem)  : Option Int32 :=
  f_X8_errorOfConflict_133 fu x1 x2 x3 x4 S 3
def f_X8_errorOfConflict_121 (fu : Nat) (x1 : Int32) (x2 : Int32) (x3 : Int32) (x4 : Int32) (S : Mem)  : Option Int32 :=
  (if (S.1 8 0 3) = 0 then f_X8_errorOfConflict_133 fu x1 x2 x3 x4 S 0 else f_X8_errorOfConflict_128 fu x1 x2 x3 x4 S)
def f_X8_errorOfConflict_106 (fu : Nat) (x1 : Int32) (x2 : Int32) (x3 : Int32) (x4 : Int32) (S : Mem)  : Option Int32 :=
  f_X8_errorOfConflict_133 fu x1 x2 x3 x4 S 2
def f_X8_errorOfConflict_82 (fu : Nat) (K30 : Int32 → Int32 → Option Int32) (x1 : Int32) (x2 : Int32) (x3 : Int32) (x4 : Int32) (S : Mem) (x6 : Int32) (t0 : Int32) : Option Int32 :=
  K30 t0 (x6 + 1)
def f_X8_errorOfConflict_81 (fu : Nat) (K30 : Int32 → Int32 → Option Int32) (x1 : Int32) (x2 : Int32) (x3 : Int32) (x4 : Int32) (S : Mem) (x6 : Int32) : Option Int32 :=
  f_X8_errorOfConflict_82 fu K30 x1 x2 x3 x4 S x6 0
def f_X8_errorOfConflict_77 (fu : Nat) (K30 : Int32 → Int32 → Option Int32) (x1 : Int32) (x2 : Int32) (x3 : Int32) (x4 : Int32) (S : Mem) (x6 : Int32) : Option Int32 :=
  f_X8_errorOfConflict_82 fu K30 x1 x2 x3 x4 S x6 1
def f_X8_errorOfConflict_30 (fu : Nat) (x1 : Int32) (x2 : Int32) (x3 : Int32) (x4 : Int32) (S : Mem) : Nat → Int32 → Int32 → Option Int32
  | 0, _, _ => none
  | n + 1, x5, x6 => gd (inb x1 5) ((if (S.1 22 0 (x1 : Int32).toNatClampNeg) ≤ x6 then (if x2 = x3 then f_X8_errorOfConflict_106 fu x1 x2 x3 x4 S else b1 (f_X8_in fu x4 (-1) 9 S) (fun r100 => (if r100 = 0 then f_X8_errorOfConflict_106 fu x1 x2 x3 x4 S else (if x4 = (-1) then f_X8_errorOfConflict_121 fu x1 x2 x3 x4 S else (if x5 = 0 then f_X8_errorOfConflict_121 fu x1 x2 x3 x4 S else f_X8_errorOfConflict_128 fu x1 x2 x3 x4 S))))) else gd (inb ((4 * x1) + x6) 20) ((if x5 = 0 then b1 (f_X8_has fu (S.1 21 0 (((4 * x1) + x6) : Int32).toNatClampNeg) x2 S) (fun r62 => (if r62 = 0 then f_X8_errorOfConflict_81 fu (f_X8_errorOfConflict_30 fu x1 x2 x3 x4 S n) x1 x2 x3 x4 S x6 else b1 (f_X8_has fu (S.1 21 0 (((4 * x1) + x6) : Int32).toNatClampNeg) x3 S) (fun r71 => (if r71 = 0 then f_X8_errorOfConflict_81 fu (f_X8_errorOfConflict_30 fu x1 x2 x3 x4 S n) x1 x2 x3 x4 S x6 else f_X8_errorOfConflict_77 fu (f_X8_errorOfConflict_30 fu x1 x2 x3 x4 S n) x1 x2 x3 x4 S x6)))) else f_X8_errorOfConflict_77 fu (f_X8_errorOfConflict_30 fu x1 x2 x3 x4 S n) x1 x2 x3 x4 S x6))))
def f_X8_errorOfConflict_22 (fu : Nat) (x1 : Int32) (x2 : Int32) (x3 : Int32) (x4 : Int32) (S : Mem)  : Option Int32 :=
  some 1
def f_X8_errorOfConflict (fu : Nat) (x1 : Int32) (x2 : Int32) (x3 : Int32) (x4 : Int32) (S : Mem) : Option Int32 :=
  b1 (f_X8_isJunction fu x1 S) (fun r2 => (if r2 = 0 then f_X8_errorOfConflict_22 fu x1 x2 x3 x4 S else b1 (f_X8_isMovement fu x2 S) (fun r9 => (if r9 = 0 then f_X8_errorOfConflict_22 fu x1 x2 x3 x4 S else b1 (f_X8_isMovement fu x3 S) (fun r16 => (if r16 = 0 then f_X8_errorOfConflict_22 fu x1 x2 x3 x4 S else f_X8_errorOfConflict_30 fu x1 x2 x3 x4 S fu 0 0))))))
def f_X8_setConflict (fu : Nat) (x1 : Int32) (x2 : Int32) (x3 : Int32) (x4 : Int32) (S : Mem) : Option (Int32 × Mem) :=
  b1 (f_X8_errorOfConflict fu x1 x2 x3 x4 S) (fun r7 => b2 (f_X8_holds fu r7 S) (fun r10 S10 => (if r10 = 0 then some (0, S10) else b1 (f_X8_conflict fu x1 x2 x3 S10) (fun r25 => gd (inb r25 80) (b1 (f_X8_conflict fu x1 x2 x3 S10) (fun r38 => gd (inb r38 80) (b1 (f_X8_conflict fu x1 x3 x2 (wI S10 20 0 (r38 : Int32).toNatClampNeg x4)) (fun r51 => gd (inb r51 80) (some ((S10.1 20 0 (r25 : Int32).toNatClampNeg), (wI (wI S10 20 0 (r38 : Int32).toNatClampNeg x4) 20 0 (r51 : Int32).toNatClampNeg x4)))))))))))
def f_X8_setPhases_247 (fu : Nat) (x1 : Int32) (x2 : Int32) (x3 : Int32) (x4 : Int32) (x5 : Int32) (t0 : Int32) (t1 : Int32) (S : Mem) : Option (Int32 × Mem) :=
  gd (inb t1 5) (gd (inb x1 5) (some (((wI S 22 0 (t1 : Int32).toNatClampNeg t0).1 22 0 (x1 : Int32).toNatClampNeg), (wI S 22 0 (t1 : Int32).toNatClampNeg t0))))
def f_X8_setPhases_163 (fu : Nat) (x1 : Int32) (x2 : Int32) (x3 : Int32) (x4 : Int32) (x5 : Int32) (t0 : Int32) (S : Mem) : Option (Int32 × Mem) :=
  b2 (f_X8_holds fu t0 S) (fun r163 S163 => (if r163 = 0 then some (0, S163) else gd (inb (4 * x1) 20) (gd (inb ((4 * x1) + 1) 20) (gd (inb ((4 * x1) + 2) 20) (gd (inb ((4 * x1) + 3) 20) ((if x3 = 0 then f_X8_setPhases_247 fu x1 x2 x3 x4 x5 1 x1 (wI (wI (wI (wI S163 21 0 ((4 * x1) : Int32).toNatClampNeg x2) 21 0 (((4 * x1) + 1) : Int32).toNatClampNeg x3) 21 0 (((4 * x1) + 2) : Int32).toNatClampNeg x4) 21 0 (((4 * x1) + 3) : Int32).toNatClampNeg x5) else (if x4 = 0 then f_X8_setPhases_247 fu x1 x2 x3 x4 x5 2 x1 (wI (wI (wI (wI S163 21 0 ((4 * x1) : Int32).toNatClampNeg x2) 21 0 (((4 * x1) + 1) : Int32).toNatClampNeg x3) 21 0 (((4 * x1) + 2) : Int32).toNatClampNeg x4) 21 0 (((4 * x1) + 3) : Int32).toNatClampNeg x5) else (if x5 = 0 then f_X8_setPhases_247 fu x1 x2 x3 x4 x5 3 x1 (wI (wI (wI (wI S163 21 0 ((4 * x1) : Int32).toNatClampNeg x2) 21 0 (((4 * x1) + 1) : Int32).toNatClampNeg x3) 21 0 (((4 * x1) + 2) : Int32).toNatClampNeg x4) 21 0 (((4 * x1) + 3) : Int32).toNatClampNeg x5) else f_X8_setPhases_247 fu x1 x2 x3 x4 x5 4 x1 (wI (wI (wI (wI S163 21 0 ((4 * x1) : Int32).toNatClampNeg x2) 21 0 (((4 * x1) + 1) : Int32).toNatClampNeg x3) 21 0 (((4 * x1) + 2) : Int32).toNatClampNeg x4) 21 0 (((4 * x1) + 3) : Int32).toNatClampNeg x5))))))))))
def f_X8_setPhases_158 (fu : Nat) (x1 : Int32) (x2 : Int32) (x3 : Int32) (x4 : Int32) (x5 : Int32) (S : Mem) : Option (Int32 × Mem) :=
  f_X8_setPhases_163 fu x1 x2 x3 x4 x5 3 S
def f_X8_setPhases_122 (fu : Nat) (x1 : Int32) (x2 : Int32) (x3 : Int32) (x4 : Int32) (x5 : Int32) (x6 : Int32) (t0 : Int32) (S : Mem) : Option (Int32 × Mem) :=
  b1 (f_X8_isJunction fu x1 S) (fun r127 => (if r127 = 0 then f_X8_setPhases_163 fu x1 x2 x3 x4 x5 1 S else (if x6 = 0 then f_X8_setPhases_163 fu x1 x2 x3 x4 x5 2 S else (if t0 = 0 then (if (S.1 8 0 3) = 0 then f_X8_setPhases_163 fu x1 x2 x3 x4 x5 0 S else f_X8_setPhases_158 fu x1 x2 x3 x4 x5 S) else f_X8_setPhases_158 fu x1 x2 x3 x4 x5 S))))
def f_X8_setPhases_121 (fu : Nat) (x1 : Int32) (x2 : Int32) (x3 : Int32) (x4 : Int32) (x5 : Int32) (x6 : Int32) (S : Mem) : Option (Int32 × Mem) :=
  f_X8_setPhases_122 fu x1 x2 x3 x4 x5 x6 0 S
def f_X8_setPhases_117 (fu : Nat) (x1 : Int32) (x2 : Int32) (x3 : Int32) (x4 : Int32) (x5 : Int32) (x6 : Int32) (S : Mem) : Option (Int32 × Mem) :=
  f_X8_setPhases_122 fu x1 x2 x3 x4 x5 x6 1 S
def f_X8_setPhases_64 (fu : Nat) (x1 : Int32) (x2 : Int32) (x3 : Int32) (x4 : Int32) (x5 : Int32) (t0 : Int32) (S : Mem) : Option (Int32 × Mem) :=
  b1 (f_X8_isJunction fu x1 S) (fun r68 => (if r68 = 0 then f_X8_setPhases_121 fu x1 x2 x3 x4 x5 t0 S else (if t0 = 0 then f_X8_setPhases_121 fu x1 x2 x3 x4 x5 t0 S else b1 (f_X8_isBad fu x1 x2 S) (fun r82 => (if r82 = 0 then b1 (f_X8_isBad fu x1 x3 S) (fun r91 => (if r91 = 0 then b1 (f_X8_isBad fu x1 x4 S) (fun r101 => (if r101 = 0 then b1 (f_X8_isBad fu x1 x5 S) (fun r111 => (if r111 = 0 then f_X8_setPhases_121 fu x1 x2 x3 x4 x5 t0 S else f_X8_setPhases_117 fu x1 x2 x3 x4 x5 t0 S)) else f_X8_setPhases_117 fu x1 x2 x3 x4 x5 t0 S)) else f_X8_setPhases_117 fu x1 x2 x3 x4 x5 t0 S)) else f_X8_setPhases_117 fu x1 x2 x3 x4 x5 t0 S)))))
def f_X8_setPhases_63 (fu : Nat) (x1 : Int32) (x2 : Int32) (x3 : Int32) (x4 : Int32) (x5 : Int32) (S : Mem) : Option (Int32 × Mem) :=
  f_X8_setPhases_64 fu x1 x2 x3 x4 x5 0 S
def f_X8_setPhases_53 (fu : Nat) (x1 : Int32) (x2 : Int32) (x3 : Int32) (x4 : Int32) (x5 : Int32) (t0 : Int32) (t1 : Int32) (t2 : Int32) (S : Mem) : Option (Int32 × Mem) :=
  b1 (f_X8_in fu t2 t1 t0 S) (fun r53 => (if r53 = 0 then f_X8_setPhases_63 fu x1 x2 x3 x4 x5 S else f_X8_setPhases_64 fu x1 x2 x3 x4 x5 1 S))
def f_X8_setPhases_33 (fu : Nat) (x1 : Int32) (x2 : Int32) (x3 : Int32) (x4 : Int32) (x5 : Int32) (t0 : Int32) (t1 : Int32) (t2 : Int32) (S : Mem) : Option (Int32 × Mem) :=
  b1 (f_X8_in fu t2 t1 t0 S) (fun r33 => (if r33 = 0 then f_X8_setPhases_63 fu x1 x2 x3 x4 x5 S else (if x4 = 0 then f_X8_setPhases_53 fu x1 x2 x3 x4 x5 0 0 x5 S else f_X8_setPhases_53 fu x1 x2 x3 x4 x5 15 0 x5 S)))
def f_X8_setPhases (fu : Nat) (x1 : Int32) (x2 : Int32) (x3 : Int32) (x4 : Int32) (x5 : Int32) (S : Mem) : Option (Int32 × Mem) :=
  b1 (f_X8_in fu x2 1 15 S) (fun r4 => (if r4 = 0 then f_X8_setPhases_63 fu x1 x2 x3 x4 x5 S else b1 (f_X8_in fu x3 0 15 S) (fun r14 => (if r14 = 0 then f_X8_setPhases_63 fu x1 x2 x3 x4 x5 S else (if x3 = 0 then f_X8_setPhases_33 fu x1 x2 x3 x4 x5 0 0 x4 S else f_X8_setPhases_33 fu x1 x2 x3 x4 x5 15 0 x4 S)))))
def f_X8_setFlow_59 (fu : Nat) (x1 : Int32) (x2 : Int32) (x3 : Int32) (t0 : Int32) (S : Mem) : Option (Int32 × Mem) :=
  b2 (f_X8_holds fu t0 S) (fun r59 S59 => (if r59 = 0 then some (0, S59) else gd (inb ((4 * x1) + x2) 20) (gd (inb ((4 * x1) + x2) 20) (some ((S59.1 23 0 (((4 * x1) + x2) : Int32).toNatClampNeg), (wI S59 23 0 (((4 * x1) + x2) : Int32).toNatClampNeg x3))))))
def f_X8_setFlow_20 (fu : Nat) (x1 : Int32) (x2 : Int32) (x3 : Int32) (t0 : Int32) (S : Mem) : Option (Int32 × Mem) :=
  (if t0 = 0 then f_X8_setFlow_59 fu x1 x2 x3 1 S else b1 (f_X8_in fu x3 0 1800 S) (fun r37 => (if r37 = 0 then f_X8_setFlow_59 fu x1 x2 x3 2 S else (if (S.1 8 0 3) = 0 then f_X8_setFlow_59 fu x1 x2 x3 0 S else f_X8_setFlow_59 fu x1 x2 x3 3 S))))
def f_X8_setFlow_19 (fu : Nat) (x1 : Int32) (x2 : Int32) (x3 : Int32) (S : Mem) : Option (Int32 × Mem) :=
  f_X8_setFlow_20 fu x1 x2 x3 0 S
def f_X8_setFlow (fu : Nat) (x1 : Int32) (x2 : Int32) (x3 : Int32) (S : Mem) : Option (Int32 × Mem) :=
  b1 (f_X8_isJunction fu x1 S) (fun r2 => (if r2 = 0 then f_X8_setFlow_19 fu x1 x2 x3 S else b1 (f_X8_isMovement fu x2 S) (fun r9 => (if r9 = 0 then f_X8_setFlow_19 fu x1 x2 x3 S else f_X8_setFlow_20 fu x1 x2 x3 1 S))))
def f_X8_setLink_81 (fu : Nat) (x1 : Int32) (x2 : Int32) (x3 : Int32) (S : Mem) : Option (Unit × Mem) :=
  some ((), S)
def f_X8_setLink_61 (fu : Nat) (x1 : Int32) (x2 : Int32) (x3 : Int32) (t0 : Int32) (S : Mem) : Option (Unit × Mem) :=
  b2 (f_X8_holds fu t0 S) (fun r61 S61 => (if r61 = 0 then f_X8_setLink_81 fu x1 x2 x3 S61 else gd (inb x1 4) (gd (inb x1 4) (f_X8_setLink_81 fu x1 x2 x3 (wI (wI S61 25 0 (x1 : Int32).toNatClampNeg x2) 26 0 (x1 : Int32).toNatClampNeg x3)))))
def f_X8_setLink_25 (fu : Nat) (x1 : Int32) (x2 : Int32) (x3 : Int32) (t0 : Int32) (S : Mem) : Option (Unit × Mem) :=
  b1 (f_X8_isLink fu x1 S) (fun r30 => (if r30 = 0 then f_X8_setLink_61 fu x1 x2 x3 1 S else (if t0 = 0 then f_X8_setLink_61 fu x1 x2 x3 2 S else (if (S.1 8 0 3) = 0 then f_X8_setLink_61 fu x1 x2 x3 0 S else f_X8_setLink_61 fu x1 x2 x3 3 S))))
def f_X8_setLink_24 (fu : Nat) (x1 : Int32) (x2 : Int32) (x3 : Int32) (S : Mem) : Option (Unit × Mem) :=
  f_X8_setLink_25 fu x1 x2 x3 0 S
def f_X8_setLink (fu : Nat) (x1 : Int32) (x2 : Int32) (x3 : Int32) (S : Mem) : Option (Unit × Mem) :=
  b1 (f_X8_in fu x2 1 60 S) (fun r4 => (if r4 = 0 then f_X8_setLink_24 fu x1 x2 x3 S else b1 (f_X8_in fu x3 1 40 S) (fun r14 => (if r14 = 0 then f_X8_setLink_24 fu x1 x2 x3 S else f_X8_setLink_25 fu x1 x2 x3 1 S))))
def f_X8_setOffset_43 (fu : Nat) (x1 : Int32) (x2 : Int32) (t0 : Int32) (S : Mem) : Option (Int32 × Mem) :=
  b2 (f_X8_holds fu t0 S) (fun r43 S43 => (if r43 = 0 then some (0, S43) else gd (inb x1 5) (gd (inb x1 5) (some ((S43.1 24 0 (x1 : Int32).toNatClampNeg), (wI S43 24 0 (x1 : Int32).toNatClampNeg x2))))))
def f_X8_setOffset (fu : Nat) (x1 : Int32) (x2 : Int32) (S : Mem) : Option (Int32 × Mem) :=
  b1 (f_X8_isJunction fu x1 S) (fun r3 => (if r3 = 0 then f_X8_setOffset_43 fu x1 x2 1 S else b1 (f_X8_in fu x2 0 ((S.1 8 0 2) - 1) S) (fun r21 => (if r21 = 0 then f_X8_setOffset_43 fu x1 x2 2 S else (if (S.1 8 0 3) = 0 then f_X8_setOffset_43 fu x1 x2 0 S else f_X8_setOffset_43 fu x1 x2 3 S)))))
def f_X8_clearingOf_100 (fu : Nat) (K38 : Int32 → Int32 → Int32 → Int32 → Option Int32) (x1 : Int32) (x2 : Int32) (S : Mem) (x3 : Int32) (x4 : Int32) (x6 : Int32) (t0 : Int32) : Option Int32 :=
  K38 x3 x4 t0 (x6 + 1)
def f_X8_clearingOf_84 (fu : Nat) (K38 : Int32 → Int32 → Int32 → Int32 → Option Int32) (x1 : Int32) (x2 : Int32) (S : Mem) (x3 : Int32) (x4 : Int32) (x5 : Int32) (x6 : Int32) (t0 : Int32) : Option Int32 :=
  (if t0 ≤ x5 then f_X8_clearingOf_100 fu K38 x1 x2 S x3 x4 x6 x5 else f_X8_clearingOf_100 fu K38 x1 x2 S x3 x4 x6 t0)
def f_X8_clearingOf_83 (fu : Nat) (K38 : Int32 → Int32 → Int32 → Int32 → Option Int32) (x1 : Int32) (x2 : Int32) (S : Mem) (x3 : Int32) (x4 : Int32) (x5 : Int32) (x6 : Int32) : Option Int32 :=
  f_X8_clearingOf_84 fu K38 x1 x2 S x3 x4 x5 x6 0
def f_X8_clearingOf_38 (fu : Nat) (x1 : Int32) (x2 : Int32) (S : Mem) : Nat → Int32 → Int32 → Int32 → Int32 → Option Int32
  | 0, _, _, _, _ => none
  | n + 1, x3, x4, x5, x6 => (if (16 : Int32) ≤ x6 then some x5 else gd (!(4 == 0)) (b1 (f_X8_has fu x3 (x6 / 4) S) (fun r50 => (if r50 = 0 then f_X8_clearingOf_83 fu (f_X8_clearingOf_38 fu x1 x2 S n) x1 x2 S x3 x4 x5 x6 else gd (!(4 == 0)) (b1 (f_X8_has fu x4 (x6 - x6 / 4 * 4) S) (fun r62 => (if r62 = 0 then f_X8_clearingOf_83 fu (f_X8_clearingOf_38 fu x1 x2 S n) x1 x2 S x3 x4 x5 x6 else gd (inb ((16 * x1) + x6) 80) (f_X8_clearingOf_84 fu (f_X8_clearingOf_38 fu x1 x2 S n) x1 x2 S x3 x4 x5 x6 (S.1 20 0 (((16 * x1) + x6) : Int32).toNatClampNeg)))))))))
def f_X8_clearingOf (fu : Nat) (x1 : Int32) (x2 : Int32) (S : Mem) : Option Int32 :=
  gd (inb ((4 * x1) + x2) 20) (gd (inb x1 5) (gd (!((S.1 22 0 (x1 : Int32).toNatClampNeg) == 0)) (gd (inb ((4 * x1) + ((x2 + 1) - (x2 + 1) / (S.1 22 0 (x1 : Int32).toNatClampNeg) * (S.1 22 0 (x1 : Int32).toNatClampNeg))) 20) (f_X8_clearingOf_38 fu x1 x2 S fu (S.1 21 0 (((4 * x1) + x2) : Int32).toNatClampNeg) (S.1 21 0 (((4 * x1) + ((x2 + 1) - (x2 + 1) / (S.1 22 0 (x1 : Int32).toNatClampNeg) * (S.1 22 0 (x1 : Int32).toNatClampNeg))) : Int32).toNatClampNeg) 0 0))))
def f_X8_leastOf_23 (fu : Nat) (x1 : Int32) (x2 : Int32) (S : Mem) (t0 : Int32) : Option Int32 :=
  some t0
def f_X8_leastOf (fu : Nat) (x1 : Int32) (x2 : Int32) (S : Mem) : Option Int32 :=
  gd (inb ((4 * x1) + x2) 20) (b1 (f_X8_has fu (S.1 21 0 (((4 * x1) + x2) : Int32).toNatClampNeg) 3 S) (fun r11 => (if r11 = 0 then f_X8_leastOf_23 fu x1 x2 S 5 else f_X8_leastOf_23 fu x1 x2 S 8)))
def f_X8_weight_58 (fu : Nat) (K5 : Int32 → Int32 → Option Int32) (x1 : Int32) (x2 : Int32) (S : Mem) (x4 : Int32) (t0 : Int32) : Option Int32 :=
  K5 t0 (x4 + 1)
def f_X8_weight_44 (fu : Nat) (K5 : Int32 → Int32 → Option Int32) (x1 : Int32) (x2 : Int32) (S : Mem) (x3 : Int32) (x4 : Int32) (t0 : Int32) : Option Int32 :=
  (if t0 ≤ x3 then f_X8_weight_58 fu K5 x1 x2 S x4 x3 else f_X8_weight_58 fu K5 x1 x2 S x4 t0)
def f_X8_weight_5 (fu : Nat) (x1 : Int32) (x2 : Int32) (S : Mem) : Nat → Int32 → Int32 → Option Int32
  | 0, _, _ => none
  | n + 1, x3, x4 => (if (4 : Int32) ≤ x4 then some x3 else gd (inb ((4 * x1) + x2) 20) (b1 (f_X8_has fu (S.1 21 0 (((4 * x1) + x2) : Int32).toNatClampNeg) x4 S) (fun r23 => (if r23 = 0 then f_X8_weight_44 fu (f_X8_weight_5 fu x1 x2 S n) x1 x2 S x3 x4 0 else gd (inb ((4 * x1) + x4) 20) (f_X8_weight_44 fu (f_X8_weight_5 fu x1 x2 S n) x1 x2 S x3 x4 (S.1 23 0 (((4 * x1) + x4) : Int32).toNatClampNeg))))))
def f_X8_weight (fu : Nat) (x1 : Int32) (x2 : Int32) (S : Mem) : Option Int32 :=
  f_X8_weight_5 fu x1 x2 S fu 0 0
def f_X8_plans_209 (fu : Nat) (K174 : Int32 → Int32 → Mem → Option (Unit × Mem)) (x1 : Int32) (x4 : Int32) (x5 : Int32) (t0 : Int32) (t1 : Int32) (t2 : Int32) (S : Mem) : Option (Unit × Mem) :=
  gd (inb t2 20) (K174 x4 (x5 + 1) (wI S 27 0 (t2 : Int32).toNatClampNeg (t1 + t0)))
def f_X8_plans_174 (fu : Nat) (x1 : Int32) : Nat → Int32 → Int32 → Mem → Option (Unit × Mem)
  | 0, _, _, _ => none
  | n + 1, x4, x5, S => gd (inb x1 5) ((if (S.1 22 0 (x1 : Int32).toNatClampNeg) ≤ x5 then some ((), S) else gd (inb ((4 * x1) + x5) 20) ((if x4 ≤ x5 then f_X8_plans_209 fu (f_X8_plans_174 fu x1 n) x1 x4 x5 0 (S.1 27 0 (((4 * x1) + x5) : Int32).toNatClampNeg) ((4 * x1) + x5) S else f_X8_plans_209 fu (f_X8_plans_174 fu x1 n) x1 x4 x5 1 (S.1 27 0 (((4 * x1) + x5) : Int32).toNatClampNeg) ((4 * x1) + x5) S))))
def f_X8_plans_135 (fu : Nat) (K98 : Int32 → Int32 → Int32 → Int32 → Mem → Option (Unit × Mem)) (x1 : Int32) (x2 : Int32) (x3 : Int32) (x4 : Int32) (x5 : Int32) (t0 : Int32) (S : Mem) : Option (Unit × Mem) :=
  b1 (f_X8_leastOf fu x1 x5 S) (fun r151 => gd (inb ((4 * x1) + x5) 20) (K98 x2 x3 (x4 - t0) (x5 + 1) (wI S 27 0 (((4 * x1) + x5) : Int32).toNatClampNeg (r151 + t0))))
def f_X8_plans_98 (fu : Nat) (x1 : Int32) : Nat → Int32 → Int32 → Int32 → Int32 → Mem → Option (Unit × Mem)
  | 0, _, _, _, _, _ => none
  | n + 1, x2, x3, x4, x5, S => gd (inb x1 5) ((if (S.1 22 0 (x1 : Int32).toNatClampNeg) ≤ x5 then f_X8_plans_174 fu x1 fu x4 0 S else (if x3 = 0 then gd (inb x1 5) (gd (!((S.1 22 0 (x1 : Int32).toNatClampNeg) == 0)) (f_X8_plans_135 fu (f_X8_plans_98 fu x1 n) x1 x2 x3 x4 x5 (x2 / (S.1 22 0 (x1 : Int32).toNatClampNeg)) S)) else b1 (f_X8_weight fu x1 x5 S) (fun r129 => gd (!(x3 == 0)) (f_X8_plans_135 fu (f_X8_plans_98 fu x1 n) x1 x2 x3 x4 x5 ((x2 * r129) / x3) S)))))
def f_X8_plans_91 (fu : Nat) (x1 : Int32) (x2 : Int32) (x3 : Int32) (t0 : Int32) (t1 : Int32) (S : Mem) : Option (Unit × Mem) :=
  gd (inb t1 5) (f_X8_plans_98 fu x1 fu x2 x3 x2 0 (wI S 29 0 (t1 : Int32).toNatClampNeg (nb t0)))
def f_X8_plans_10 (fu : Nat) (x1 : Int32) : Nat → Int32 → Int32 → Int32 → Mem → Option (Unit × Mem)
  | 0, _, _, _, _ => none
  | n + 1, x2, x3, x4, S => gd (inb x1 5) ((if (S.1 22 0 (x1 : Int32).toNatClampNeg) ≤ x4 then (if x2 < 0 then f_X8_plans_91 fu x1 x2 x3 0 x1 S else f_X8_plans_91 fu x1 x2 x3 1 x1 S) else b1 (f_X8_clearingOf fu x1 x4 S) (fun r35 => gd (inb ((4 * x1) + x4) 20) (gd (inb ((4 * x1) + x4) 20) (b1 (f_X8_leastOf fu x1 x4 (wI S 28 0 (((4 * x1) + x4) : Int32).toNatClampNeg r35)) (fun r55 => b1 (f_X8_weight fu x1 x4 (wI S 28 0 (((4 * x1) + x4) : Int32).toNatClampNeg r35)) (fun r66 => f_X8_plans_10 fu x1 n (x2 - (((wI S 28 0 (((4 * x1) + x4) : Int32).toNatClampNeg r35).1 28 0 (((4 * x1) + x4) : Int32).toNatClampNeg) + r55)) (x3 + r66) (x4 + 1) (wI S 28 0 (((4 * x1) + x4) : Int32).toNatClampNeg r35))))))))
def f_X8_plans (fu : Nat) (x1 : Int32) (S : Mem) : Option (Unit × Mem) :=
  f_X8_plans_10 fu x1 fu (S.1 8 0 2) 0 0 S
def f_X8_plansAll_35 (fu : Nat) (K4 : Int32 → Int32 → Mem → Option (Int32 × Mem)) (x2 : Int32) (t0 : Int32) (S : Mem) : Option (Int32 × Mem) :=
  K4 t0 (x2 + 1) S
def f_X8_plansAll_34 (fu : Nat) (K4 : Int32 → Int32 → Mem → Option (Int32 × Mem)) (x2 : Int32) (S : Mem) : Option (Int32 × Mem) :=
  f_X8_plansAll_35 fu K4 x2 0 S
def f_X8_plansAll_4 (fu : Nat) : Nat → Int32 → Int32 → Mem → Option (Int32 × Mem)
  | 0, _, _, _ => none
  | n + 1, x1, x2, S => (if (S.1 8 0 1) ≤ x2 then some (nb x1, S) else b2 (f_X8_plans fu x2 S) (fun _ S14 => (if x1 = 0 then f_X8_plansAll_34 fu (f_X8_plansAll_4 fu n) x2 S14 else gd (inb x2 5) ((if (S14.1 29 0 (x2 : Int32).toNatClampNeg) = 0 then f_X8_plansAll_34 fu (f_X8_plansAll_4 fu n) x2 S14 else f_X8_plansAll_35 fu (f_X8_plansAll_4 fu n) x2 1 S14)))))
def f_X8_plansAll (fu : Nat) (S : Mem) : Option (Int32 × Mem) :=
  f_X8_plansAll_4 fu fu 1 0 S
def f_X8_secondOf (fu : Nat) (x1 : Int32) (x2 : Int32) (S : Mem) : Option Int32 :=
  gd (inb x1 5) (gd (!((S.1 8 0 2) == 0)) (gd (!((S.1 8 0 2) == 0)) (some ((((x2 - (S.1 24 0 (x1 : Int32).toNatClampNeg)) - (x2 - (S.1 24 0 (x1 : Int32).toNatClampNeg)) / (S.1 8 0 2) * (S.1 8 0 2)) + (S.1 8 0 2)) - (((x2 - (S.1 24 0 (x1 : Int32).toNatClampNeg)) - (x2 - (S.1 24 0 (x1 : Int32).toNatClampNeg)) / (S.1 8 0 2) * (S.1 8 0 2)) + (S.1 8 0 2)) / (S.1 8 0 2) * (S.1 8 0 2)))))
def f_X8_cycleOf (fu : Nat) (x1 : Int32) (x2 : Int32) (S : Mem) : Option Int32 :=
  gd (inb x1 5) (b1 (f_X8_secondOf fu x1 x2 S) (fun r11 => gd (!((S.1 8 0 2) == 0)) (some (((x2 - (S.1 24 0 (x1 : Int32).toNatClampNeg)) - r11) / (S.1 8 0 2)))))
def f_X8_phaseAt_150 (fu : Nat) (x1 : Int32) (x2 : Int32) (x3 : Int32) (S : Mem) (t0 : Int32) : Option Int32 :=
  some t0
def f_X8_phaseAt_129 (fu : Nat) (K46 : Int32 → Int32 → Int32 → Option Int32) (x1 : Int32) (x2 : Int32) (x3 : Int32) (S : Mem) (x4 : Int32) (x5 : Int32) (x6 : Int32) (t0 : Int32) (t1 : Int32) : Option Int32 :=
  (if (t1 - t0) ≤ x4 then gd (inb ((4 * x1) + x6) 20) (K46 (x4 - ((t1 - t0) + (S.1 28 0 (((4 * x1) + x6) : Int32).toNatClampNeg))) x5 (x6 + 1)) else (if (0 : Int32) ≤ x4 then f_X8_phaseAt_150 fu x1 x2 x3 S x6 else f_X8_phaseAt_150 fu x1 x2 x3 S (-1)))
def f_X8_phaseAt_128 (fu : Nat) (K46 : Int32 → Int32 → Int32 → Option Int32) (x1 : Int32) (x2 : Int32) (x3 : Int32) (S : Mem) (x4 : Int32) (x5 : Int32) (x6 : Int32) (t0 : Int32) : Option Int32 :=
  f_X8_phaseAt_129 fu K46 x1 x2 x3 S x4 x5 x6 0 t0
def f_X8_phaseAt_98 (fu : Nat) (K46 : Int32 → Int32 → Int32 → Option Int32) (x1 : Int32) (x2 : Int32) (x3 : Int32) (S : Mem) (x4 : Int32) (x5 : Int32) (x6 : Int32) (t0 : Int32) (t1 : Int32) : Option Int32 :=
  (if x5 = 0 then f_X8_phaseAt_128 fu K46 x1 x2 x3 S x4 x5 x6 (t1 + t0) else gd (inb x1 5) ((if x6 = (S.1 37 0 (x1 : Int32).toNatClampNeg) then gd (inb x1 5) (f_X8_phaseAt_129 fu K46 x1 x2 x3 S x4 x5 x6 (S.1 38 0 (x1 : Int32).toNatClampNeg) (t1 + t0)) else f_X8_phaseAt_128 fu K46 x1 x2 x3 S x4 x5 x6 (t1 + t0))))
def f_X8_phaseAt_97 (fu : Nat) (K46 : Int32 → Int32 → Int32 → Option Int32) (x1 : Int32) (x2 : Int32) (x3 : Int32) (S : Mem) (x4 : Int32) (x5 : Int32) (x6 : Int32) (t0 : Int32) : Option Int32 :=
  f_X8_phaseAt_98 fu K46 x1 x2 x3 S x4 x5 x6 0 t0
def f_X8_phaseAt_46 (fu : Nat) (x1 : Int32) (x2 : Int32) (x3 : Int32) (S : Mem) : Nat → Int32 → Int32 → Int32 → Option Int32
  | 0, _, _, _ => none
  | n + 1, x4, x5, x6 => gd (inb x1 5) ((if (S.1 22 0 (x1 : Int32).toNatClampNeg) ≤ x6 then some (-1) else gd (inb ((4 * x1) + x6) 20) ((if x5 = 0 then f_X8_phaseAt_97 fu (f_X8_phaseAt_46 fu x1 x2 x3 S n) x1 x2 x3 S x4 x5 x6 (S.1 27 0 (((4 * x1) + x6) : Int32).toNatClampNeg) else gd (inb x1 5) ((if x6 = (S.1 36 0 (x1 : Int32).toNatClampNeg) then gd (inb x1 5) (f_X8_phaseAt_98 fu (f_X8_phaseAt_46 fu x1 x2 x3 S n) x1 x2 x3 S x4 x5 x6 (S.1 38 0 (x1 : Int32).toNatClampNeg) (S.1 27 0 (((4 * x1) + x6) : Int32).toNatClampNeg)) else f_X8_phaseAt_97 fu (f_X8_phaseAt_46 fu x1 x2 x3 S n) x1 x2 x3 S x4 x5 x6 (S.1 27 0 (((4 * x1) + x6) : Int32).toNatClampNeg)))))))
def f_X8_phaseAt_41 (fu : Nat) (x1 : Int32) (x2 : Int32) (x3 : Int32) (S : Mem) (x4 : Int32) (t0 : Int32) : Option Int32 :=
  f_X8_phaseAt_46 fu x1 x2 x3 S fu x4 t0 0
def f_X8_phaseAt_40 (fu : Nat) (x1 : Int32) (x2 : Int32) (x3 : Int32) (S : Mem) (x4 : Int32) : Option Int32 :=
  f_X8_phaseAt_41 fu x1 x2 x3 S x4 0
def f_X8_phaseAt (fu : Nat) (x1 : Int32) (x2 : Int32) (x3 : Int32) (S : Mem) : Option Int32 :=
  b1 (f_X8_secondOf fu x1 x2 S) (fun r3 => (if x3 = 0 then f_X8_phaseAt_40 fu x1 x2 x3 S r3 else gd (inb x1 5) ((if (S.1 34 0 (x1 : Int32).toNatClampNeg) = 0 then f_X8_phaseAt_40 fu x1 x2 x3 S r3 else gd (inb x1 5) (b1 (f_X8_cycleOf fu x1 x2 S) (fun r30 => (if (S.1 35 0 (x1 : Int32).toNatClampNeg) = r30 then f_X8_phaseAt_41 fu x1 x2 x3 S r3 1 else f_X8_phaseAt_40 fu x1 x2 x3 S r3)))))))
def f_X8_isGreenAt_39 (fu : Nat) (x1 : Int32) (x2 : Int32) (x3 : Int32) (x4 : Int32) (S : Mem) (t0 : Int32) : Option Int32 :=
  some (nb t0)
def f_X8_isGreenAt_38 (fu : Nat) (x1 : Int32) (x2 : Int32) (x3 : Int32) (x4 : Int32) (S : Mem)  : Option Int32 :=
  f_X8_isGreenAt_39 fu x1 x2 x3 x4 S 0
def f_X8_isGreenAt (fu : Nat) (x1 : Int32) (x2 : Int32) (x3 : Int32) (x4 : Int32) (S : Mem) : Option Int32 :=
  b1 (f_X8_phaseAt fu x1 x3 x4 S) (fun r5 => (if r5 = (-1) then f_X8_isGreenAt_38 fu x1 x2 x3 x4 S else gd (inb ((4 * x1) + r5) 20) (b1 (f_X8_has fu (S.1 21 0 (((4 * x1) + r5) : Int32).toNatClampNeg) x2 S) (fun r28 => (if r28 = 0 then f_X8_isGreenAt_38 fu x1 x2 x3 x4 S else f_X8_isGreenAt_39 fu x1 x2 x3 x4 S 1)))))
def f_X8_isFree_104 (fu : Nat) (K5 : Int32 → Int32 → Option Int32) (x1 : Int32) (x2 : Int32) (S : Mem) (x4 : Int32) (t0 : Int32) (t1 : Int32) : Option Int32 :=
  K5 (t1 + t0) (x4 + 1)
def f_X8_isFree_103 (fu : Nat) (K5 : Int32 → Int32 → Option Int32) (x1 : Int32) (x2 : Int32) (S : Mem) (x4 : Int32) (t0 : Int32) : Option Int32 :=
  f_X8_isFree_104 fu K5 x1 x2 S x4 0 t0
def f_X8_isFree_82 (fu : Nat) (K5 : Int32 → Int32 → Option Int32) (x1 : Int32) (x2 : Int32) (S : Mem) (x4 : Int32) (x5 : Int32) (t0 : Int32) : Option Int32 :=
  (if x2 = 0 then (if x5 ≤ 0 then f_X8_isFree_103 fu K5 x1 x2 S x4 t0 else gd (inb (x5 - 1) 4) (f_X8_isFree_104 fu K5 x1 x2 S x4 (S.1 25 0 ((x5 - 1) : Int32).toNatClampNeg) t0)) else f_X8_isFree_103 fu K5 x1 x2 S x4 t0)
def f_X8_isFree_46 (fu : Nat) (K5 : Int32 → Int32 → Option Int32) (x1 : Int32) (x2 : Int32) (S : Mem) (x3 : Int32) (x4 : Int32) (x5 : Int32) (t0 : Int32) (t1 : Int32) : Option Int32 :=
  b1 (f_X8_isGreenAt fu t1 t0 x3 0 S) (fun r48 => (if r48 = 0 then some (nb 0) else (if x2 = 0 then f_X8_isFree_82 fu K5 x1 x2 S x4 x5 x3 else (if ((S.1 8 0 1) - 1) ≤ x4 then f_X8_isFree_82 fu K5 x1 x2 S x4 x5 x3 else gd (inb x4 4) (f_X8_isFree_104 fu K5 x1 x2 S x4 (S.1 25 0 (x4 : Int32).toNatClampNeg) x3)))))
def f_X8_isFree_32 (fu : Nat) (K5 : Int32 → Int32 → Option Int32) (x1 : Int32) (x2 : Int32) (S : Mem) (x3 : Int32) (x4 : Int32) (t0 : Int32) : Option Int32 :=
  (if x2 = 0 then f_X8_isFree_46 fu K5 x1 x2 S x3 x4 t0 1 t0 else f_X8_isFree_46 fu K5 x1 x2 S x3 x4 t0 0 t0)
def f_X8_isFree_5 (fu : Nat) (x1 : Int32) (x2 : Int32) (S : Mem) : Nat → Int32 → Int32 → Option Int32
  | 0, _, _ => none
  | n + 1, x3, x4 => (if (S.1 8 0 1) ≤ x4 then some (nb 1) else (if x2 = 0 then f_X8_isFree_32 fu (f_X8_isFree_5 fu x1 x2 S n) x1 x2 S x3 x4 (((S.1 8 0 1) - 1) - x4) else f_X8_isFree_32 fu (f_X8_isFree_5 fu x1 x2 S n) x1 x2 S x3 x4 x4))
def f_X8_isFree (fu : Nat) (x1 : Int32) (x2 : Int32) (S : Mem) : Option Int32 :=
  f_X8_isFree_5 fu x1 x2 S fu x1 0
def f_X8_bandOf_27 (fu : Nat) (K4 : Int32 → Int32 → Option Int32) (x1 : Int32) (S : Mem) (x3 : Int32) (t0 : Int32) (t1 : Int32) : Option Int32 :=
  K4 (t1 + t0) (x3 + 1)
def f_X8_bandOf_4 (fu : Nat) (x1 : Int32) (S : Mem) : Nat → Int32 → Int32 → Option Int32
  | 0, _, _ => none
  | n + 1, x2, x3 => (if (S.1 8 0 2) ≤ x3 then some x2 else b1 (f_X8_isFree fu x3 x1 S) (fun r16 => (if r16 = 0 then f_X8_bandOf_27 fu (f_X8_bandOf_4 fu x1 S n) x1 S x3 0 x2 else f_X8_bandOf_27 fu (f_X8_bandOf_4 fu x1 S n) x1 S x3 1 x2)))
def f_X8_bandOf (fu : Nat) (x1 : Int32) (S : Mem) : Option Int32 :=
  f_X8_bandOf_4 fu x1 S fu 0 0
def f_X8_bands (fu : Nat) (S : Mem) : Option Int32 :=
  b1 (f_X8_bandOf fu 1 S) (fun r2 => b1 (f_X8_bandOf fu 0 S) (fun r7 => some (r2 + r7)))
def f_X8_betters_91 (fu : Nat) (x1 : Int32) (t0 : Int32) (S : Mem) : Option (Int32 × Mem) :=
  some (nb t0, S)
def f_X8_betters_65 (fu : Nat) (K15 : Int32 → Int32 → Int32 → Int32 → Mem → Option (Int32 × Mem)) (x1 : Int32) (x2 : Int32) (x4 : Int32) (x5 : Int32) (t0 : Int32) (S : Mem) : Option (Int32 × Mem) :=
  K15 x2 t0 x4 (x5 + 1) S
def f_X8_betters_51 (fu : Nat) (K15 : Int32 → Int32 → Int32 → Int32 → Mem → Option (Int32 × Mem)) (x1 : Int32) (x2 : Int32) (x3 : Int32) (x5 : Int32) (x6 : Int32) (t0 : Int32) (S : Mem) : Option (Int32 × Mem) :=
  (if x6 ≤ x3 then f_X8_betters_65 fu K15 x1 x2 t0 x5 x3 S else f_X8_betters_65 fu K15 x1 x2 t0 x5 x6 S)
def f_X8_betters_15 (fu : Nat) (x1 : Int32) : Nat → Int32 → Int32 → Int32 → Int32 → Mem → Option (Int32 × Mem)
  | 0, _, _, _, _, _ => none
  | n + 1, x2, x3, x4, x5, S => (if (S.1 8 0 2) ≤ x5 then gd (inb x1 5) ((if x4 = x2 then f_X8_betters_91 fu x1 0 (wI S 24 0 (x1 : Int32).toNatClampNeg x4) else f_X8_betters_91 fu x1 1 (wI S 24 0 (x1 : Int32).toNatClampNeg x4))) else gd (inb x1 5) (b1 (f_X8_bands fu (wI S 24 0 (x1 : Int32).toNatClampNeg x5)) (fun r33 => (if r33 ≤ x3 then f_X8_betters_51 fu (f_X8_betters_15 fu x1 n) x1 x2 x3 x5 r33 x4 (wI S 24 0 (x1 : Int32).toNatClampNeg x5) else f_X8_betters_51 fu (f_X8_betters_15 fu x1 n) x1 x2 x3 x5 r33 x5 (wI S 24 0 (x1 : Int32).toNatClampNeg x5)))))
def f_X8_betters (fu : Nat) (x1 : Int32) (S : Mem) : Option (Int32 × Mem) :=
  gd (inb x1 5) (f_X8_betters_15 fu x1 fu (S.1 24 0 (x1 : Int32).toNatClampNeg) (-1) 0 0 S)
def f_X8_improve_84 (fu : Nat) (S : Mem) : Option (Int32 × Mem) :=
  b1 (f_X8_bands fu S) (fun r85 => some (r85, S))
def f_X8_improve_71 (fu : Nat) (K46 : Int32 → Int32 → Int32 → Mem → Option (Int32 × Mem)) (x2 : Int32) (x3 : Int32) (t0 : Int32) (S : Mem) : Option (Int32 × Mem) :=
  K46 t0 x2 (x3 + 1) S
def f_X8_improve_66 (fu : Nat) (K46 : Int32 → Int32 → Int32 → Mem → Option (Int32 × Mem)) (x2 : Int32) (x3 : Int32) (S : Mem) : Option (Int32 × Mem) :=
  f_X8_improve_71 fu K46 x2 x3 1 S
def f_X8_improve_46 (fu : Nat) (K32 : Int32 → Int32 → Mem → Option (Int32 × Mem)) : Nat → Int32 → Int32 → Int32 → Mem → Option (Int32 × Mem)
  | 0, _, _, _, _ => none
  | n + 1, x1, x2, x3, S => (if (S.1 8 0 1) ≤ x3 then K32 x1 (x2 + 1) S else b2 (f_X8_betters fu x3 S) (fun r56 S56 => (if r56 = 0 then (if x1 = 0 then f_X8_improve_71 fu (f_X8_improve_46 fu K32 n) x2 x3 0 S56 else f_X8_improve_66 fu (f_X8_improve_46 fu K32 n) x2 x3 S56) else f_X8_improve_66 fu (f_X8_improve_46 fu K32 n) x2 x3 S56)))
def f_X8_improve_32 (fu : Nat) : Nat → Int32 → Int32 → Mem → Option (Int32 × Mem)
  | 0, _, _, _ => none
  | n + 1, x1, x2, S => (if (10 : Int32) ≤ x2 then f_X8_improve_84 fu S else (if x1 = 0 then f_X8_improve_84 fu S else f_X8_improve_46 fu (f_X8_improve_32 fu n) fu 0 x2 1 S))
def f_X8_improve_20 (fu : Nat) (t0 : Int32) (S : Mem) : Option (Int32 × Mem) :=
  b2 (f_X8_holds fu t0 S) (fun r20 S20 => (if r20 = 0 then some (0, S20) else f_X8_improve_32 fu fu 1 0 S20))
def f_X8_improve_15 (fu : Nat) (S : Mem) : Option (Int32 × Mem) :=
  f_X8_improve_20 fu 1 S
def f_X8_improve (fu : Nat) (S : Mem) : Option (Int32 × Mem) :=
  b2 (f_X8_plansAll fu S) (fun r2 S2 => (if r2 = 0 then f_X8_improve_15 fu S2 else (if (S2.1 8 0 3) = 0 then f_X8_improve_20 fu 0 S2 else f_X8_improve_15 fu S2)))
def f_X8_junctions (fu : Nat) (S : Mem) : Option (Int32 × Mem) :=
  some (((wI S 8 0 0 0).1 8 0 1), (wI S 8 0 0 0))
def f_X8_isPlanned (fu : Nat) (x1 : Int32) (S : Mem) : Option (Int32 × Mem) :=
  b2 (f_X8_plans fu x1 S) (fun _ S2 => gd (inb x1 5) (some (nb (S2.1 29 0 (x1 : Int32).toNatClampNeg), S2)))
def f_X8_hasPlan_33 (fu : Nat) (x1 : Int32) (t0 : Int32) (S : Mem) : Option (Int32 × Mem) :=
  some (nb t0, S)
def f_X8_hasPlan_32 (fu : Nat) (x1 : Int32) (S : Mem) : Option (Int32 × Mem) :=
  f_X8_hasPlan_33 fu x1 0 S
def f_X8_hasPlan_14 (fu : Nat) (x1 : Int32) (t0 : Int32) (S : Mem) : Option (Int32 × Mem) :=
  b2 (f_X8_holds fu t0 S) (fun r14 S14 => (if r14 = 0 then f_X8_hasPlan_32 fu x1 S14 else b2 (f_X8_isPlanned fu x1 S14) (fun r22 S22 => (if r22 = 0 then f_X8_hasPlan_32 fu x1 S22 else f_X8_hasPlan_33 fu x1 1 S22))))
def f_X8_hasPlan (fu : Nat) (x1 : Int32) (S : Mem) : Option (Int32 × Mem) :=
  b1 (f_X8_isJunction fu x1 S) (fun r3 => (if r3 = 0 then f_X8_hasPlan_14 fu x1 1 S else f_X8_hasPlan_14 fu x1 0 S))
def f_X8_isPhase_29 (fu : Nat) (x1 : Int32) (x2 : Int32) (S : Mem) (t0 : Int32) : Option Int32 :=
  some (nb t0)
def f_X8_isPhase_28 (fu : Nat) (x1 : Int32) (x2 : Int32) (S : Mem)  : Option Int32 :=
  f_X8_isPhase_29 fu x1 x2 S 0
def f_X8_isPhase (fu : Nat) (x1 : Int32) (x2 : Int32) (S : Mem) : Option Int32 :=
  b1 (f_X8_isJunction fu x1 S) (fun r2 => (if r2 = 0 then f_X8_isPhase_28 fu x1 x2 S else gd (inb x1 5) (b1 (f_X8_in fu x2 0 ((S.1 22 0 (x1 : Int32).toNatClampNeg) - 1) S) (fun r18 => (if r18 = 0 then f_X8_isPhase_28 fu x1 x2 S else f_X8_isPhase_29 fu x1 x2 S 1)))))
def f_X8_green_47 (fu : Nat) (x1 : Int32) (x2 : Int32) (t0 : Int32) (S : Mem) : Option (Int32 × Mem) :=
  some (t0, S)
def f_X8_green_27 (fu : Nat) (x1 : Int32) (x2 : Int32) (t0 : Int32) (S : Mem) : Option (Int32 × Mem) :=
  b2 (f_X8_holds fu t0 S) (fun r27 S27 => (if r27 = 0 then f_X8_green_47 fu x1 x2 0 S27 else gd (inb ((4 * x1) + x2) 20) (f_X8_green_47 fu x1 x2 (S27.1 27 0 (((4 * x1) + x2) : Int32).toNatClampNeg) S27)))
def f_X8_green (fu : Nat) (x1 : Int32) (x2 : Int32) (S : Mem) : Option (Int32 × Mem) :=
  b1 (f_X8_isPhase fu x1 x2 S) (fun r4 => (if r4 = 0 then f_X8_green_27 fu x1 x2 1 S else b2 (f_X8_isPlanned fu x1 S) (fun r16 S16 => (if r16 = 0 then f_X8_green_27 fu x1 x2 2 S16 else f_X8_green_27 fu x1 x2 0 S16))))
def f_X8_clearing_31 (fu : Nat) (x1 : Int32) (x2 : Int32) (t0 : Int32) (S : Mem) : Option (Int32 × Mem) :=
  some (t0, S)
def f_X8_clearing_15 (fu : Nat) (x1 : Int32) (x2 : Int32) (t0 : Int32) (S : Mem) : Option (Int32 × Mem) :=
  b2 (f_X8_holds fu t0 S) (fun r15 S15 => (if r15 = 0 then f_X8_clearing_31 fu x1 x2 0 S15 else b1 (f_X8_clearingOf fu x1 x2 S15) (fun r24 => f_X8_clearing_31 fu x1 x2 r24 S15)))
def f_X8_clearing (fu : Nat) (x1 : Int32) (x2 : Int32) (S : Mem) : Option (Int32 × Mem) :=
  b1 (f_X8_isPhase fu x1 x2 S) (fun r4 => (if r4 = 0 then f_X8_clearing_15 fu x1 x2 1 S else f_X8_clearing_15 fu x1 x2 0 S))
def f_X8_offset_30 (fu : Nat) (x1 : Int32) (t0 : Int32) (S : Mem) : Option (Int32 × Mem) :=
  some (t0, S)
def f_X8_offset_14 (fu : Nat) (x1 : Int32) (t0 : Int32) (S : Mem) : Option (Int32 × Mem) :=
  b2 (f_X8_holds fu t0 S) (fun r14 S14 => (if r14 = 0 then f_X8_offset_30 fu x1 0 S14 else gd (inb x1 5) (f_X8_offset_30 fu x1 (S14.1 24 0 (x1 : Int32).toNatClampNeg) S14)))
def f_X8_offset (fu : Nat) (x1 : Int32) (S : Mem) : Option (Int32 × Mem) :=
  b1 (f_X8_isJunction fu x1 S) (fun r3 => (if r3 = 0 then f_X8_offset_14 fu x1 1 S else f_X8_offset_14 fu x1 0 S))
def f_X8_isGreen_81 (fu : Nat) (x1 : Int32) (x2 : Int32) (x3 : Int32) (t0 : Int32) (S : Mem) : Option (Int32 × Mem) :=
  some (nb t0, S)
def f_X8_isGreen_80 (fu : Nat) (x1 : Int32) (x2 : Int32) (x3 : Int32) (S : Mem) : Option (Int32 × Mem) :=
  f_X8_isGreen_81 fu x1 x2 x3 0 S
def f_X8_isGreen_59 (fu : Nat) (x1 : Int32) (x2 : Int32) (x3 : Int32) (t0 : Int32) (S : Mem) : Option (Int32 × Mem) :=
  b2 (f_X8_holds fu t0 S) (fun r59 S59 => (if r59 = 0 then f_X8_isGreen_80 fu x1 x2 x3 S59 else b1 (f_X8_isGreenAt fu x1 x2 x3 0 S59) (fun r70 => (if r70 = 0 then f_X8_isGreen_80 fu x1 x2 x3 S59 else f_X8_isGreen_81 fu x1 x2 x3 1 S59))))
def f_X8_isGreen_20 (fu : Nat) (x1 : Int32) (x2 : Int32) (x3 : Int32) (t0 : Int32) (S : Mem) : Option (Int32 × Mem) :=
  (if t0 = 0 then f_X8_isGreen_59 fu x1 x2 x3 1 S else b1 (f_X8_in fu x3 0 100000 S) (fun r36 => (if r36 = 0 then f_X8_isGreen_59 fu x1 x2 x3 2 S else b2 (f_X8_isPlanned fu x1 S) (fun r48 S48 => (if r48 = 0 then f_X8_isGreen_59 fu x1 x2 x3 3 S48 else f_X8_isGreen_59 fu x1 x2 x3 0 S48)))))
def f_X8_isGreen_19 (fu : Nat) (x1 : Int32) (x2 : Int32) (x3 : Int32) (S : Mem) : Option (Int32 × Mem) :=
  f_X8_isGreen_20 fu x1 x2 x3 0 S
def f_X8_isGreen (fu : Nat) (x1 : Int32) (x2 : Int32) (x3 : Int32) (S : Mem) : Option (Int32 × Mem) :=
  b1 (f_X8_isJunction fu x1 S) (fun r2 => (if r2 = 0 then f_X8_isGreen_19 fu x1 x2 x3 S else b1 (f_X8_isMovement fu x2 S) (fun r9 => (if r9 = 0 then f_X8_isGreen_19 fu x1 x2 x3 S else f_X8_isGreen_20 fu x1 x2 x3 1 S))))
def f_X8_isBreach_68 (fu : Nat) (K2 : Int32 → Option Int32) (x1 : Int32) (x2 : Int32) (S : Mem) (x3 : Int32) : Option Int32 :=
  K2 (x3 + 1)
def f_X8_isBreach_24 (fu : Nat) (K2 : Int32 → Option Int32) (x1 : Int32) (x2 : Int32) (S : Mem) : Nat → Int32 → Int32 → Int32 → Option Int32
  | 0, _, _, _ => none
  | n + 1, x3, x4, x5 => (if x4 < x5 then f_X8_isBreach_68 fu K2 x1 x2 S x3 else gd (!(4 == 0)) (b1 (f_X8_isGreenAt fu x1 (x3 / 4) x2 0 S) (fun r38 => (if r38 = 0 then f_X8_isBreach_68 fu K2 x1 x2 S x3 else gd (!(4 == 0)) (b1 (f_X8_isGreenAt fu x1 (x3 - x3 / 4 * 4) (x2 + x5) 0 S) (fun r54 => (if r54 = 0 then f_X8_isBreach_24 fu K2 x1 x2 S n x3 x4 (x5 + 1) else some (nb 1))))))))
def f_X8_isBreach_2 (fu : Nat) (x1 : Int32) (x2 : Int32) (S : Mem) : Nat → Int32 → Option Int32
  | 0, _ => none
  | n + 1, x3 => (if (16 : Int32) ≤ x3 then some (nb 0) else gd (inb ((16 * x1) + x3) 80) (f_X8_isBreach_24 fu (f_X8_isBreach_2 fu x1 x2 S n) x1 x2 S fu x3 (S.1 20 0 (((16 * x1) + x3) : Int32).toNatClampNeg) 0))
def f_X8_isBreach (fu : Nat) (x1 : Int32) (x2 : Int32) (S : Mem) : Option Int32 :=
  f_X8_isBreach_2 fu x1 x2 S fu 0
def f_X8_breaches_61 (fu : Nat) (K38 : Int32 → Int32 → Mem → Option (Int32 × Mem)) (x1 : Int32) (x3 : Int32) (t0 : Int32) (t1 : Int32) (S : Mem) : Option (Int32 × Mem) :=
  K38 (t1 + t0) (x3 + 1) S
def f_X8_breaches_38 (fu : Nat) (x1 : Int32) : Nat → Int32 → Int32 → Mem → Option (Int32 × Mem)
  | 0, _, _, _ => none
  | n + 1, x2, x3, S => (if (S.1 8 0 2) ≤ x3 then some (x2, S) else b1 (f_X8_isBreach fu x1 x3 S) (fun r50 => (if r50 = 0 then f_X8_breaches_61 fu (f_X8_breaches_38 fu x1 n) x1 x3 0 x2 S else f_X8_breaches_61 fu (f_X8_breaches_38 fu x1 n) x1 x3 1 x2 S)))
def f_X8_breaches_26 (fu : Nat) (x1 : Int32) (t0 : Int32) (S : Mem) : Option (Int32 × Mem) :=
  b2 (f_X8_holds fu t0 S) (fun r26 S26 => (if r26 = 0 then some (0, S26) else f_X8_breaches_38 fu x1 fu 0 0 S26))
def f_X8_breaches (fu : Nat) (x1 : Int32) (S : Mem) : Option (Int32 × Mem) :=
  b1 (f_X8_isJunction fu x1 S) (fun r3 => (if r3 = 0 then f_X8_breaches_26 fu x1 1 S else b2 (f_X8_isPlanned fu x1 S) (fun r15 S15 => (if r15 = 0 then f_X8_breaches_26 fu x1 2 S15 else f_X8_breaches_26 fu x1 0 S15))))
def f_X8_band_28 (fu : Nat) (x1 : Int32) (t0 : Int32) (S : Mem) : Option (Int32 × Mem) :=
  some (t0, S)
def f_X8_band_13 (fu : Nat) (x1 : Int32) (t0 : Int32) (S : Mem) : Option (Int32 × Mem) :=
  b2 (f_X8_holds fu t0 S) (fun r13 S13 => (if r13 = 0 then f_X8_band_28 fu x1 0 S13 else b1 (f_X8_bandOf fu x1 S13) (fun r21 => f_X8_band_28 fu x1 r21 S13)))
def f_X8_band (fu : Nat) (x1 : Int32) (S : Mem) : Option (Int32 × Mem) :=
  b2 (f_X8_plansAll fu S) (fun r2 S2 => (if r2 = 0 then f_X8_band_13 fu x1 1 S2 else f_X8_band_13 fu x1 0 S2))
def f_X8_bestByAll_118 (fu : Nat) (K48 : Int32 → Int32 → Int32 → Int32 → Mem → Option (Int32 × Mem)) (x1 : Int32) (x2 : Int32) (x4 : Int32) (t0 : Int32) (S : Mem) : Option (Int32 × Mem) :=
  K48 x1 x2 t0 (x4 + 1) S
def f_X8_bestByAll_70 (fu : Nat) (K48 : Int32 → Int32 → Int32 → Int32 → Mem → Option (Int32 × Mem)) (x1 : Int32) (x2 : Int32) (x3 : Int32) (x4 : Int32) (t0 : Int32) (t1 : Int32) (t2 : Int32) (S : Mem) : Option (Int32 × Mem) :=
  (if (t1 * t0) ≤ t2 then gd (inb 1 5) (gd (inb 2 5) (some (x3, (wI (wI S 24 0 (1 : Int32).toNatClampNeg x1) 24 0 (2 : Int32).toNatClampNeg x2)))) else gd (!((S.1 8 0 2) == 0)) (gd (inb 1 5) (gd (!(((wI S 24 0 (1 : Int32).toNatClampNeg (x4 - x4 / (S.1 8 0 2) * (S.1 8 0 2))).1 8 0 2) == 0)) (gd (inb 2 5) (b1 (f_X8_bands fu (wI (wI S 24 0 (1 : Int32).toNatClampNeg (x4 - x4 / (S.1 8 0 2) * (S.1 8 0 2))) 24 0 (2 : Int32).toNatClampNeg (x4 / ((wI S 24 0 (1 : Int32).toNatClampNeg (x4 - x4 / (S.1 8 0 2) * (S.1 8 0 2))).1 8 0 2)))) (fun r101 => (if r101 ≤ x3 then f_X8_bestByAll_118 fu K48 x1 x2 x4 x3 (wI (wI S 24 0 (1 : Int32).toNatClampNeg (x4 - x4 / (S.1 8 0 2) * (S.1 8 0 2))) 24 0 (2 : Int32).toNatClampNeg (x4 / ((wI S 24 0 (1 : Int32).toNatClampNeg (x4 - x4 / (S.1 8 0 2) * (S.1 8 0 2))).1 8 0 2))) else f_X8_bestByAll_118 fu K48 x1 x2 x4 r101 (wI (wI S 24 0 (1 : Int32).toNatClampNeg (x4 - x4 / (S.1 8 0 2) * (S.1 8 0 2))) 24 0 (2 : Int32).toNatClampNeg (x4 / ((wI S 24 0 (1 : Int32).toNatClampNeg (x4 - x4 / (S.1 8 0 2) * (S.1 8 0 2))).1 8 0 2))))))))))
def f_X8_bestByAll_48 (fu : Nat) : Nat → Int32 → Int32 → Int32 → Int32 → Mem → Option (Int32 × Mem)
  | 0, _, _, _, _, _ => none
  | n + 1, x1, x2, x3, x4, S => (if (S.1 8 0 1) = 3 then f_X8_bestByAll_70 fu (f_X8_bestByAll_48 fu n) x1 x2 x3 x4 (S.1 8 0 2) (S.1 8 0 2) x4 S else f_X8_bestByAll_70 fu (f_X8_bestByAll_48 fu n) x1 x2 x3 x4 1 (S.1 8 0 2) x4 S)
def f_X8_bestByAll_21 (fu : Nat) (t0 : Int32) (S : Mem) : Option (Int32 × Mem) :=
  b2 (f_X8_holds fu t0 S) (fun r21 S21 => (if r21 = 0 then some (0, S21) else gd (inb 1 5) (gd (inb 2 5) (f_X8_bestByAll_48 fu fu (S21.1 24 0 (1 : Int32).toNatClampNeg) (S21.1 24 0 (2 : Int32).toNatClampNeg) 0 0 S21))))
def f_X8_bestByAll_16 (fu : Nat) (S : Mem) : Option (Int32 × Mem) :=
  f_X8_bestByAll_21 fu 1 S
def f_X8_bestByAll (fu : Nat) (S : Mem) : Option (Int32 × Mem) :=
  b2 (f_X8_plansAll fu S) (fun r2 S2 => (if r2 = 0 then f_X8_bestByAll_16 fu S2 else (if (S2.1 8 0 1) ≤ 3 then f_X8_bestByAll_21 fu 0 S2 else f_X8_bestByAll_16 fu S2)))
def f_X8_joins_94 (fu : Nat) (x1 : Int32) (S : Mem) : Option (Unit × Mem) :=
  some ((), S)
def f_X8_joins_41 (fu : Nat) (K4 : Int32 → Mem → Option (Unit × Mem)) (x1 : Int32) : Nat → Int32 → Int32 → Mem → Option (Unit × Mem)
  | 0, _, _, _ => none
  | n + 1, x2, x3, S => gd (inb x2 4) ((if (S.1 32 0 (x2 : Int32).toNatClampNeg) ≤ x3 then gd (inb x1 5) (gd (inb x1 5) (K4 x2 (wI S 30 0 (x1 : Int32).toNatClampNeg ((S.1 30 0 (x1 : Int32).toNatClampNeg) + 1)))) else gd (inb (((40 * x2) + x3) + 1) 160) (gd (inb ((40 * x2) + x3) 160) (f_X8_joins_41 fu K4 x1 n x2 (x3 + 1) (wI S 33 0 (((40 * x2) + x3) : Int32).toNatClampNeg (S.1 33 0 ((((40 * x2) + x3) + 1) : Int32).toNatClampNeg))))))
def f_X8_joins_4 (fu : Nat) (x1 : Int32) : Nat → Int32 → Mem → Option (Unit × Mem)
  | 0, _, _ => none
  | n + 1, x2, S => gd (inb x2 4) ((if (S.1 32 0 (x2 : Int32).toNatClampNeg) ≤ 0 then f_X8_joins_94 fu x1 S else gd (inb (40 * x2) 160) ((if (S.1 33 0 ((40 * x2) : Int32).toNatClampNeg) = (S.1 8 0 14) then gd (inb x2 4) (gd (inb x2 4) (f_X8_joins_41 fu (f_X8_joins_4 fu x1 n) x1 fu x2 0 (wI S 32 0 (x2 : Int32).toNatClampNeg ((S.1 32 0 (x2 : Int32).toNatClampNeg) - 1)))) else f_X8_joins_94 fu x1 S))))
def f_X8_joins (fu : Nat) (x1 : Int32) (S : Mem) : Option (Unit × Mem) :=
  f_X8_joins_4 fu x1 fu (x1 - 1) S
def f_X8_arrives_57 (fu : Nat) (S : Mem) : Option (Unit × Mem) :=
  some ((), S)
def f_X8_arrives (fu : Nat) (S : Mem) : Option (Unit × Mem) :=
  gd (inb 0 20) ((if ((wI S 8 0 15 ((S.1 8 0 15) + (S.1 23 0 (0 : Int32).toNatClampNeg))).1 8 0 15) < 3600 then f_X8_arrives_57 fu (wI S 8 0 15 ((S.1 8 0 15) + (S.1 23 0 (0 : Int32).toNatClampNeg))) else gd (inb 0 5) (gd (inb 0 5) (f_X8_arrives_57 fu (wI (wI (wI (wI S 8 0 15 ((S.1 8 0 15) + (S.1 23 0 (0 : Int32).toNatClampNeg))) 8 0 15 (((wI S 8 0 15 ((S.1 8 0 15) + (S.1 23 0 (0 : Int32).toNatClampNeg))).1 8 0 15) - 3600)) 8 0 16 (((wI (wI S 8 0 15 ((S.1 8 0 15) + (S.1 23 0 (0 : Int32).toNatClampNeg))) 8 0 15 (((wI S 8 0 15 ((S.1 8 0 15) + (S.1 23 0 (0 : Int32).toNatClampNeg))).1 8 0 15) - 3600)).1 8 0 16) + 1)) 30 0 (0 : Int32).toNatClampNeg (((wI (wI (wI S 8 0 15 ((S.1 8 0 15) + (S.1 23 0 (0 : Int32).toNatClampNeg))) 8 0 15 (((wI S 8 0 15 ((S.1 8 0 15) + (S.1 23 0 (0 : Int32).toNatClampNeg))).1 8 0 15) - 3600)) 8 0 16 (((wI (wI S 8 0 15 ((S.1 8 0 15) + (S.1 23 0 (0 : Int32).toNatClampNeg))) 8 0 15 (((wI S 8 0 15 ((S.1 8 0 15) + (S.1 23 0 (0 : Int32).toNatClampNeg))).1 8 0 15) - 3600)).1 8 0 16) + 1)).1 30 0 (0 : Int32).toNatClampNeg) + 1))))))
def f_X8_heldOf (fu : Nat) (x1 : Int32) (S : Mem) : Option Int32 :=
  gd (inb x1 4) (gd (inb (x1 + 1) 5) (some ((S.1 32 0 (x1 : Int32).toNatClampNeg) + (S.1 30 0 ((x1 + 1) : Int32).toNatClampNeg))))
def f_X8_leaves_173 (fu : Nat) (x1 : Int32) (S : Mem) : Option (Unit × Mem) :=
  some ((), S)
def f_X8_leaves_102 (fu : Nat) (x1 : Int32) (x3 : Int32) (S : Mem) : Option (Unit × Mem) :=
  gd (inb x1 5) (gd (inb x1 5) (gd (inb x1 5) ((if x3 = 0 then gd (inb x1 4) (gd (inb x1 4) (gd (inb ((40 * x1) + ((wI (wI S 30 0 (x1 : Int32).toNatClampNeg ((S.1 30 0 (x1 : Int32).toNatClampNeg) - 1)) 31 0 (x1 : Int32).toNatClampNeg 0).1 32 0 (x1 : Int32).toNatClampNeg)) 160) (gd (inb x1 4) (gd (inb x1 4) (f_X8_leaves_173 fu x1 (wI (wI (wI (wI S 30 0 (x1 : Int32).toNatClampNeg ((S.1 30 0 (x1 : Int32).toNatClampNeg) - 1)) 31 0 (x1 : Int32).toNatClampNeg 0) 33 0 (((40 * x1) + ((wI (wI S 30 0 (x1 : Int32).toNatClampNeg ((S.1 30 0 (x1 : Int32).toNatClampNeg) - 1)) 31 0 (x1 : Int32).toNatClampNeg 0).1 32 0 (x1 : Int32).toNatClampNeg)) : Int32).toNatClampNeg (((wI (wI S 30 0 (x1 : Int32).toNatClampNeg ((S.1 30 0 (x1 : Int32).toNatClampNeg) - 1)) 31 0 (x1 : Int32).toNatClampNeg 0).1 8 0 14) + ((wI (wI S 30 0 (x1 : Int32).toNatClampNeg ((S.1 30 0 (x1 : Int32).toNatClampNeg) - 1)) 31 0 (x1 : Int32).toNatClampNeg 0).1 25 0 (x1 : Int32).toNatClampNeg))) 32 0 (x1 : Int32).toNatClampNeg (((wI (wI (wI S 30 0 (x1 : Int32).toNatClampNeg ((S.1 30 0 (x1 : Int32).toNatClampNeg) - 1)) 31 0 (x1 : Int32).toNatClampNeg 0) 33 0 (((40 * x1) + ((wI (wI S 30 0 (x1 : Int32).toNatClampNeg ((S.1 30 0 (x1 : Int32).toNatClampNeg) - 1)) 31 0 (x1 : Int32).toNatClampNeg 0).1 32 0 (x1 : Int32).toNatClampNeg)) : Int32).toNatClampNeg (((wI (wI S 30 0 (x1 : Int32).toNatClampNeg ((S.1 30 0 (x1 : Int32).toNatClampNeg) - 1)) 31 0 (x1 : Int32).toNatClampNeg 0).1 8 0 14) + ((wI (wI S 30 0 (x1 : Int32).toNatClampNeg ((S.1 30 0 (x1 : Int32).toNatClampNeg) - 1)) 31 0 (x1 : Int32).toNatClampNeg 0).1 25 0 (x1 : Int32).toNatClampNeg))).1 32 0 (x1 : Int32).toNatClampNeg) + 1))))))) else f_X8_leaves_173 fu x1 (wI (wI (wI S 30 0 (x1 : Int32).toNatClampNeg ((S.1 30 0 (x1 : Int32).toNatClampNeg) - 1)) 31 0 (x1 : Int32).toNatClampNeg 0) 8 0 17 (((wI (wI S 30 0 (x1 : Int32).toNatClampNeg ((S.1 30 0 (x1 : Int32).toNatClampNeg) - 1)) 31 0 (x1 : Int32).toNatClampNeg 0).1 8 0 17) + 1))))))
def f_X8_leaves_101 (fu : Nat) (x1 : Int32) (S : Mem) : Option (Unit × Mem) :=
  some ((), S)
def f_X8_leaves_63 (fu : Nat) (x1 : Int32) (t0 : Int32) (S : Mem) : Option (Unit × Mem) :=
  gd (inb x1 5) ((if (S.1 31 0 (x1 : Int32).toNatClampNeg) < 2 then f_X8_leaves_101 fu x1 S else gd (inb x1 5) ((if (S.1 30 0 (x1 : Int32).toNatClampNeg) = 0 then f_X8_leaves_101 fu x1 S else (if t0 = 0 then b1 (f_X8_heldOf fu x1 S) (fun r89 => gd (inb x1 4) ((if r89 < (S.1 26 0 (x1 : Int32).toNatClampNeg) then f_X8_leaves_102 fu x1 t0 S else f_X8_leaves_101 fu x1 S))) else f_X8_leaves_102 fu x1 t0 S)))))
def f_X8_leaves_47 (fu : Nat) (x1 : Int32) (t0 : Int32) (t1 : Int32) (S : Mem) : Option (Unit × Mem) :=
  gd (inb t1 5) ((if x1 = (((wI S 31 0 (t1 : Int32).toNatClampNeg t0).1 8 0 1) - 1) then f_X8_leaves_63 fu x1 1 (wI S 31 0 (t1 : Int32).toNatClampNeg t0) else f_X8_leaves_63 fu x1 0 (wI S 31 0 (t1 : Int32).toNatClampNeg t0)))
def f_X8_leaves (fu : Nat) (x1 : Int32) (S : Mem) : Option (Unit × Mem) :=
  b1 (f_X8_isGreenAt fu x1 0 (S.1 8 0 14) 1 S) (fun r8 => (if r8 = 0 then f_X8_leaves_47 fu x1 0 x1 S else gd (inb x1 5) ((if (2 : Int32) ≤ (S.1 31 0 (x1 : Int32).toNatClampNeg) then f_X8_leaves_47 fu x1 2 x1 S else gd (inb x1 5) (f_X8_leaves_47 fu x1 ((S.1 31 0 (x1 : Int32).toNatClampNeg) + 1) x1 S)))))
def f_X8_run_95 (fu : Nat) (K68 : Int32 → Int32 → Int32 → Mem → Option (Int32 × Mem)) (x1 : Int32) (x2 : Int32) (x3 : Int32) (x4 : Int32) (S : Mem) : Option (Int32 × Mem) :=
  b2 (f_X8_leaves fu x4 S) (fun _ S98 => K68 x2 x3 (x4 + 1) S98)
def f_X8_run_68 (fu : Nat) (K60 : Int32 → Int32 → Mem → Option (Int32 × Mem)) (x1 : Int32) : Nat → Int32 → Int32 → Int32 → Mem → Option (Int32 × Mem)
  | 0, _, _, _, _ => none
  | n + 1, x2, x3, x4, S => (if (S.1 8 0 1) ≤ x4 then K60 x2 (x3 + 1) (wI S 8 0 14 ((S.1 8 0 14) + 1)) else (if x4 = 0 then b2 (f_X8_arrives fu S) (fun _ S83 => f_X8_run_95 fu (f_X8_run_68 fu K60 x1 n) x1 x2 x3 x4 S83) else b2 (f_X8_joins fu x4 S) (fun _ S92 => f_X8_run_95 fu (f_X8_run_68 fu K60 x1 n) x1 x2 x3 x4 S92)))
def f_X8_run_60 (fu : Nat) (x1 : Int32) : Nat → Int32 → Int32 → Mem → Option (Int32 × Mem)
  | 0, _, _, _ => none
  | n + 1, x2, x3, S => (if x1 ≤ x3 then some (((S.1 8 0 17) - x2), S) else f_X8_run_68 fu (f_X8_run_60 fu x1 n) x1 fu x2 x3 0 S)
def f_X8_run_40 (fu : Nat) (x1 : Int32) (t0 : Int32) (S : Mem) : Option (Int32 × Mem) :=
  b2 (f_X8_holds fu t0 S) (fun r40 S40 => (if r40 = 0 then some (0, S40) else f_X8_run_60 fu x1 fu ((wI S40 8 0 3 1).1 8 0 17) 0 (wI S40 8 0 3 1)))
def f_X8_run_35 (fu : Nat) (x1 : Int32) (S : Mem) : Option (Int32 × Mem) :=
  f_X8_run_40 fu x1 2 S
def f_X8_run (fu : Nat) (x1 : Int32) (S : Mem) : Option (Int32 × Mem) :=
  b1 (f_X8_in fu x1 1 600 S) (fun r6 => (if r6 = 0 then f_X8_run_40 fu x1 1 S else b2 (f_X8_plansAll fu S) (fun r17 S17 => (if r17 = 0 then f_X8_run_35 fu x1 S17 else (if ((S17.1 8 0 14) + x1) ≤ 7200 then f_X8_run_40 fu x1 0 S17 else f_X8_run_35 fu x1 S17)))))
def f_X8_phaseOf_2 (fu : Nat) (x1 : Int32) (x2 : Int32) (S : Mem) : Nat → Int32 → Option Int32
  | 0, _ => none
  | n + 1, x3 => gd (inb x1 5) ((if (S.1 22 0 (x1 : Int32).toNatClampNeg) ≤ x3 then some (-1) else gd (inb ((4 * x1) + x3) 20) (b1 (f_X8_has fu (S.1 21 0 (((4 * x1) + x3) : Int32).toNatClampNeg) x2 S) (fun r23 => (if r23 = 0 then f_X8_phaseOf_2 fu x1 x2 S n (x3 + 1) else some x3)))))
def f_X8_phaseOf (fu : Nat) (x1 : Int32) (x2 : Int32) (S : Mem) : Option Int32 :=
  f_X8_phaseOf_2 fu x1 x2 S fu 0
def f_X8_errorOfCall_76 (fu : Nat) (x1 : Int32) (x2 : Int32) (t0 : Int32) (S : Mem) : Option (Int32 × Mem) :=
  some (t0, S)
def f_X8_errorOfCall_71 (fu : Nat) (x1 : Int32) (x2 : Int32) (S : Mem) : Option (Int32 × Mem) :=
  f_X8_errorOfCall_76 fu x1 x2 2 S
def f_X8_errorOfCall_49 (fu : Nat) (x1 : Int32) (x2 : Int32) (t0 : Int32) (S : Mem) : Option (Int32 × Mem) :=
  b2 (f_X8_plansAll fu S) (fun r51 S51 => (if r51 = 0 then f_X8_errorOfCall_71 fu x1 x2 S51 else b1 (f_X8_phaseOf fu x1 x2 S51) (fun r60 => (if r60 = (-1) then f_X8_errorOfCall_71 fu x1 x2 S51 else (if t0 = 0 then f_X8_errorOfCall_76 fu x1 x2 0 S51 else f_X8_errorOfCall_71 fu x1 x2 S51)))))
def f_X8_errorOfCall_48 (fu : Nat) (x1 : Int32) (x2 : Int32) (S : Mem) : Option (Int32 × Mem) :=
  f_X8_errorOfCall_49 fu x1 x2 0 S
def f_X8_errorOfCall_15 (fu : Nat) (x1 : Int32) (x2 : Int32) (S : Mem) : Option (Int32 × Mem) :=
  some (1, S)
def f_X8_errorOfCall (fu : Nat) (x1 : Int32) (x2 : Int32) (S : Mem) : Option (Int32 × Mem) :=
  b1 (f_X8_isJunction fu x1 S) (fun r2 => (if r2 = 0 then f_X8_errorOfCall_15 fu x1 x2 S else b1 (f_X8_isMovement fu x2 S) (fun r9 => (if r9 = 0 then f_X8_errorOfCall_15 fu x1 x2 S else gd (inb x1 5) ((if (S.1 34 0 (x1 : Int32).toNatClampNeg) = 0 then f_X8_errorOfCall_48 fu x1 x2 S else gd (inb x1 5) (b1 (f_X8_cycleOf fu x1 (S.1 8 0 14) S) (fun r38 => (if (S.1 35 0 (x1 : Int32).toNatClampNeg) = r38 then f_X8_errorOfCall_49 fu x1 x2 1 S else f_X8_errorOfCall_48 fu x1 x2 S)))))))))
def f_X8_least_10 (fu : Nat) (x0 : Int32) (x1 : Int32) (S : Mem) (t0 : Int32) : Option Int32 :=
  some t0
def f_X8_least (fu : Nat) (x0 : Int32) (x1 : Int32) (S : Mem) : Option Int32 :=
  (if x1 ≤ x0 then f_X8_least_10 fu x0 x1 S x1 else f_X8_least_10 fu x0 x1 S x0)
def f_X8_above (fu : Nat) (x1 : Int32) (x2 : Int32) (S : Mem) : Option Int32 :=
  gd (inb ((4 * x1) + x2) 20) (b1 (f_X8_leastOf fu x1 x2 S) (fun r13 => some ((S.1 27 0 (((4 * x1) + x2) : Int32).toNatClampNeg) - r13)))
def f_X8_behind_67 (fu : Nat) (x1 : Int32) (x2 : Int32) (S : Mem) (x3 : Int32) : Option Int32 :=
  some x3
def f_X8_behind_2 (fu : Nat) (x1 : Int32) (x2 : Int32) (S : Mem) : Nat → Int32 → Option Int32
  | 0, _ => none
  | n + 1, x3 => b1 (f_X8_phaseAt fu x1 (((S.1 8 0 14) + x3) + 1) 0 S) (fun r13 => (if r13 = x2 then gd (inb ((4 * x1) + x2) 20) ((if ((S.1 27 0 (((4 * x1) + x2) : Int32).toNatClampNeg) - 1) ≤ x3 then f_X8_behind_67 fu x1 x2 S x3 else b1 (f_X8_cycleOf fu x1 (((S.1 8 0 14) + x3) + 1) S) (fun r46 => b1 (f_X8_cycleOf fu x1 (S.1 8 0 14) S) (fun r55 => (if r46 = r55 then f_X8_behind_2 fu x1 x2 S n (x3 + 1) else f_X8_behind_67 fu x1 x2 S x3))))) else f_X8_behind_67 fu x1 x2 S x3))
def f_X8_behind (fu : Nat) (x1 : Int32) (x2 : Int32) (S : Mem) : Option Int32 :=
  f_X8_behind_2 fu x1 x2 S fu 0
def f_X8_callBus_178 (fu : Nat) (x1 : Int32) (x2 : Int32) (S : Mem) : Option (Int32 × Mem) :=
  gd (inb x1 5) (some ((S.1 38 0 (x1 : Int32).toNatClampNeg), S))
def f_X8_callBus_135 (fu : Nat) (x1 : Int32) (x2 : Int32) (x3 : Int32) (x4 : Int32) (S : Mem) : Option (Int32 × Mem) :=
  (if x3 = (-1) then f_X8_callBus_178 fu x1 x2 S else (if x4 ≤ x3 then f_X8_callBus_178 fu x1 x2 S else gd (inb x1 5) (b1 (f_X8_behind fu x1 x3 (wI S 37 0 (x1 : Int32).toNatClampNeg x3)) (fun r162 => b1 (f_X8_least fu 5 r162 (wI S 37 0 (x1 : Int32).toNatClampNeg x3)) (fun r165 => b1 (f_X8_above fu x1 x3 (wI S 37 0 (x1 : Int32).toNatClampNeg x3)) (fun r171 => b1 (f_X8_least fu r165 r171 (wI S 37 0 (x1 : Int32).toNatClampNeg x3)) (fun r174 => gd (inb x1 5) (f_X8_callBus_178 fu x1 x2 (wI (wI S 37 0 (x1 : Int32).toNatClampNeg x3) 38 0 (x1 : Int32).toNatClampNeg r174)))))))))
def f_X8_callBus (fu : Nat) (x1 : Int32) (x2 : Int32) (S : Mem) : Option (Int32 × Mem) :=
  b2 (f_X8_errorOfCall fu x1 x2 S) (fun r4 S4 => b2 (f_X8_holds fu r4 S4) (fun r7 S7 => (if r7 = 0 then some (0, S7) else b1 (f_X8_phaseAt fu x1 (S7.1 8 0 14) 0 S7) (fun r22 => b1 (f_X8_phaseOf fu x1 x2 S7) (fun r29 => gd (inb x1 5) (b1 (f_X8_cycleOf fu x1 ((wI (wI S7 8 0 3 1) 34 0 (x1 : Int32).toNatClampNeg (nb 1)).1 8 0 14) (wI (wI S7 8 0 3 1) 34 0 (x1 : Int32).toNatClampNeg (nb 1))) (fun r57 => gd (inb x1 5) (gd (inb x1 5) (gd (inb x1 5) (gd (inb x1 5) ((if r22 = r29 then gd (inb x1 5) ((if (((wI (wI (wI (wI (wI (wI S7 8 0 3 1) 34 0 (x1 : Int32).toNatClampNeg (nb 1)) 35 0 (x1 : Int32).toNatClampNeg r57) 36 0 (x1 : Int32).toNatClampNeg r29) 37 0 (x1 : Int32).toNatClampNeg r29) 38 0 (x1 : Int32).toNatClampNeg 0).1 22 0 (x1 : Int32).toNatClampNeg) - 1) ≤ r29 then f_X8_callBus_135 fu x1 x2 r22 r29 (wI (wI (wI (wI (wI (wI S7 8 0 3 1) 34 0 (x1 : Int32).toNatClampNeg (nb 1)) 35 0 (x1 : Int32).toNatClampNeg r57) 36 0 (x1 : Int32).toNatClampNeg r29) 37 0 (x1 : Int32).toNatClampNeg r29) 38 0 (x1 : Int32).toNatClampNeg 0) else gd (inb x1 5) (b1 (f_X8_above fu x1 (r29 + 1) (wI (wI (wI (wI (wI (wI (wI S7 8 0 3 1) 34 0 (x1 : Int32).toNatClampNeg (nb 1)) 35 0 (x1 : Int32).toNatClampNeg r57) 36 0 (x1 : Int32).toNatClampNeg r29) 37 0 (x1 : Int32).toNatClampNeg r29) 38 0 (x1 : Int32).toNatClampNeg 0) 37 0 (x1 : Int32).toNatClampNeg (r29 + 1))) (fun r125 => b1 (f_X8_least fu 5 r125 (wI (wI (wI (wI (wI (wI (wI S7 8 0 3 1) 34 0 (x1 : Int32).toNatClampNeg (nb 1)) 35 0 (x1 : Int32).toNatClampNeg r57) 36 0 (x1 : Int32).toNatClampNeg r29) 37 0 (x1 : Int32).toNatClampNeg r29) 38 0 (x1 : Int32).toNatClampNeg 0) 37 0 (x1 : Int32).toNatClampNeg (r29 + 1))) (fun r128 => gd (inb x1 5) (f_X8_callBus_178 fu x1 x2 (wI (wI (wI (wI (wI (wI (wI (wI S7 8 0 3 1) 34 0 (x1 : Int32).toNatClampNeg (nb 1)) 35 0 (x1 : Int32).toNatClampNeg r57) 36 0 (x1 : Int32).toNatClampNeg r29) 37 0 (x1 : Int32).toNatClampNeg r29) 38 0 (x1 : Int32).toNatClampNeg 0) 37 0 (x1 : Int32).toNatClampNeg (r29 + 1)) 38 0 (x1 : Int32).toNatClampNeg r128))))))) else f_X8_callBus_135 fu x1 x2 r22 r29 (wI (wI (wI (wI (wI (wI S7 8 0 3 1) 34 0 (x1 : Int32).toNatClampNeg (nb 1)) 35 0 (x1 : Int32).toNatClampNeg r57) 36 0 (x1 : Int32).toNatClampNeg r29) 37 0 (x1 : Int32).toNatClampNeg r29) 38 0 (x1 : Int32).toNatClampNeg 0)))))))))))))
def f_X8_clock (fu : Nat) (S : Mem) : Option (Int32 × Mem) :=
  some (((wI S 8 0 0 0).1 8 0 14), (wI S 8 0 0 0))
def f_X8_phaseNow_46 (fu : Nat) (x1 : Int32) (t0 : Int32) (S : Mem) : Option (Int32 × Mem) :=
  some (t0, S)
def f_X8_phaseNow_26 (fu : Nat) (x1 : Int32) (t0 : Int32) (S : Mem) : Option (Int32 × Mem) :=
  b2 (f_X8_holds fu t0 S) (fun r26 S26 => (if r26 = 0 then f_X8_phaseNow_46 fu x1 0 S26 else b1 (f_X8_phaseAt fu x1 (S26.1 8 0 14) 1 S26) (fun r39 => f_X8_phaseNow_46 fu x1 r39 S26)))
def f_X8_phaseNow (fu : Nat) (x1 : Int32) (S : Mem) : Option (Int32 × Mem) :=
  b1 (f_X8_isJunction fu x1 S) (fun r3 => (if r3 = 0 then f_X8_phaseNow_26 fu x1 1 S else b2 (f_X8_isPlanned fu x1 S) (fun r15 S15 => (if r15 = 0 then f_X8_phaseNow_26 fu x1 2 S15 else f_X8_phaseNow_26 fu x1 0 S15))))
def f_X8_queue_30 (fu : Nat) (x1 : Int32) (t0 : Int32) (S : Mem) : Option (Int32 × Mem) :=
  some (t0, S)
def f_X8_queue_14 (fu : Nat) (x1 : Int32) (t0 : Int32) (S : Mem) : Option (Int32 × Mem) :=
  b2 (f_X8_holds fu t0 S) (fun r14 S14 => (if r14 = 0 then f_X8_queue_30 fu x1 0 S14 else gd (inb x1 5) (f_X8_queue_30 fu x1 (S14.1 30 0 (x1 : Int32).toNatClampNeg) S14)))
def f_X8_queue (fu : Nat) (x1 : Int32) (S : Mem) : Option (Int32 × Mem) :=
  b1 (f_X8_isJunction fu x1 S) (fun r3 => (if r3 = 0 then f_X8_queue_14 fu x1 1 S else f_X8_queue_14 fu x1 0 S))
def f_X8_held_29 (fu : Nat) (x1 : Int32) (t0 : Int32) (S : Mem) : Option (Int32 × Mem) :=
  some (t0, S)
def f_X8_held_14 (fu : Nat) (x1 : Int32) (t0 : Int32) (S : Mem) : Option (Int32 × Mem) :=
  b2 (f_X8_holds fu t0 S) (fun r14 S14 => (if r14 = 0 then f_X8_held_29 fu x1 0 S14 else b1 (f_X8_heldOf fu x1 S14) (fun r22 => f_X8_held_29 fu x1 r22 S14)))
def f_X8_held (fu : Nat) (x1 : Int32) (S : Mem) : Option (Int32 × Mem) :=
  b1 (f_X8_isLink fu x1 S) (fun r3 => (if r3 = 0 then f_X8_held_14 fu x1 1 S else f_X8_held_14 fu x1 0 S))
def f_X8_come (fu : Nat) (S : Mem) : Option (Int32 × Mem) :=
  some (((wI S 8 0 0 0).1 8 0 16), (wI S 8 0 0 0))
def f_X8_through (fu : Nat) (S : Mem) : Option (Int32 × Mem) :=
  some (((wI S 8 0 0 0).1 8 0 17), (wI S 8 0 0 0))
