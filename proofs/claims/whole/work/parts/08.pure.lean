def f_X3_hasBusIn_13 (fu : Nat) (k : Nat) (x1 : Int32) (S : Mem) (t0 : Int32) : Option Int32 :=
  some (nb t0)
def f_X3_hasBusIn (fu : Nat) (k : Nat) (x1 : Int32) (S : Mem) : Option Int32 :=
  (if (S.1 3 k 13) ≤ x1 then f_X3_hasBusIn_13 fu k x1 S 0 else f_X3_hasBusIn_13 fu k x1 S 1)
def f_X7_modulo_21 (fu : Nat) (x0 : Int32) (x1 : Int32) (S : Mem) (t0 : Int32) : Option Int32 :=
  some t0
def f_X7_modulo (fu : Nat) (x0 : Int32) (x1 : Int32) (S : Mem) : Option Int32 :=
  (if (0 : Int32) < x1 then gd (!(x1 == 0)) ((if (0 : Int32) ≤ (x0 - x0 / x1 * x1) then f_X7_modulo_21 fu x0 x1 S (x0 - x0 / x1 * x1) else f_X7_modulo_21 fu x0 x1 S ((x0 - x0 / x1 * x1) + x1))) else some 0)
def f_X3_placeInCycle (fu : Nat) (k : Nat) (x1 : Int32) (S : Mem) : Option Int32 :=
  b1 (f_X7_modulo fu (x1 - (S.1 3 k 9)) (S.1 3 k 8) S) (fun r10 => some r10)
def f_X7_read_17 (fu : Nat) (ck len k : Nat) (x1 : Int32) (S : Mem) (t0 : Int32) : Option Int32 :=
  some t0
def f_X7_read_16 (fu : Nat) (ck len k : Nat) (x1 : Int32) (S : Mem)  : Option Int32 :=
  f_X7_read_17 fu ck len k x1 S 0
def f_X7_read (fu : Nat) (ck len k : Nat) (x1 : Int32) (S : Mem) : Option Int32 :=
  (if x1 < 0 then f_X7_read_16 fu ck len k x1 S else (if (nI len) ≤ x1 then f_X7_read_16 fu ck len k x1 S else gd (inb x1 len) (f_X7_read_17 fu ck len k x1 S (S.1 ck k (x1 : Int32).toNatClampNeg))))
def f_X3_changedGreen_32 (fu : Nat) (k : Nat) (x1 : Int32) (S : Mem) (t0 : Int32) : Option Int32 :=
  b1 (f_X7_read fu 14 4 k x1 S) (fun r38 => some (r38 + t0))
def f_X3_changedGreen (fu : Nat) (k : Nat) (x1 : Int32) (S : Mem) : Option Int32 :=
  (if x1 = (S.1 3 k 15) then f_X3_changedGreen_32 fu k x1 S (S.1 3 k 16) else (if x1 = (S.1 3 k 14) then f_X3_changedGreen_32 fu k x1 S (-(S.1 3 k 16)) else f_X3_changedGreen_32 fu k x1 S 0))
def f_X3_phaseIn_46 (fu : Nat) (K15 : Int32 → Int32 → Int32 → Option Int32) (k : Nat) (x1 : Int32) (S : Mem) (x2 : Int32) (x3 : Int32) (x4 : Int32) (t0 : Int32) : Option Int32 :=
  (if t0 ≤ x3 then b1 (f_X7_read fu 15 4 k x4 S) (fun r69 => (if r69 ≤ (x3 - t0) then b1 (f_X7_read fu 15 4 k x4 S) (fun r84 => K15 x2 ((x3 - t0) - r84) (x4 + 1)) else some (-1))) else some x4)
def f_X3_phaseIn_15 (fu : Nat) (k : Nat) (x1 : Int32) (S : Mem) : Nat → Int32 → Int32 → Int32 → Option Int32
  | 0, _, _, _ => none
  | n + 1, x2, x3, x4 => (if (S.1 3 k 7) ≤ x4 then some (-1) else (if x2 = 0 then b1 (f_X7_read fu 14 4 k x4 S) (fun r43 => f_X3_phaseIn_46 fu (f_X3_phaseIn_15 fu k x1 S n) k x1 S x2 x3 x4 r43) else b1 (f_X3_changedGreen fu k x4 S) (fun r31 => f_X3_phaseIn_46 fu (f_X3_phaseIn_15 fu k x1 S n) k x1 S x2 x3 x4 r31)))
def f_X3_phaseIn (fu : Nat) (k : Nat) (x1 : Int32) (S : Mem) : Option Int32 :=
  b1 (f_X3_hasBusIn fu k x1 S) (fun r2 => b1 (f_X3_placeInCycle fu k x1 S) (fun r8 => f_X3_phaseIn_15 fu k x1 S fu r2 r8 0))
