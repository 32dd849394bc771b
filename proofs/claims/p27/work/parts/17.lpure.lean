/-! The law's methods as pure functions. Written by program (wip/p27/gen/lgen.py). -/
def f_L_low (fu : Nat) (x0 : Int32) (x1 : Int32) (S : Mem) : Option Int32 :=
  gd (!(x1 == 0)) (some ((x0 &&& 2147483647) - (x0 &&& 2147483647) / x1 * x1))
def fx_L_link (fu : Nat) (x1 : Int32) (x2 : Int32) (x3 : Int32) (S : Mem) : Option ((Nat ⊕ Int32) × Mem) :=
  b2 (fx_X7_setLink fu x1 x2 x3 S) (fun z S2 => bz z (fun e => some (.inl e, S2)) (fun _ => some (.inr 0, S2)))
def fx_L_begin (fu : Nat) (x1 : Int32) (x2 : Int32) (S : Mem) : Option ((Nat ⊕ Int32) × Mem) :=
  b2 (fx_X7_begin fu x1 x2 S) (fun z S2 => bz z (fun e => some (.inl e, S2)) (fun _ => some (.inr 0, S2)))
def f_L_green (fu : Nat) (x1 : Int32) (x2 : Int32) (S : Mem) : Option Int32 :=
  b1 (fx_X7_green fu x1 x2 S) (fun z3 => bz z3 (fun e => (if e = 3 then some (-1) else (if e = 2 then some (-2) else none))) (fun v => some v))
def f_L_phaseNow (fu : Nat) (x1 : Int32) (S : Mem) : Option Int32 :=
  b1 (fx_X7_phaseNow fu x1 S) (fun z2 => bz z2 (fun e => (if e = 2 then some (-2) else none)) (fun v => some v))
def f_L_band (fu : Nat) (x1 : Int32) (S : Mem) : Option (Int32 × Mem) :=
  b2 (fx_X7_band fu x1 S) (fun z2 S2 => bz z2 (fun e => (if e = 2 then some ((-2), S2) else none)) (fun v => some (v, S2)))
def f_L_does_129 (fu : Nat) (x1 : Int32) (x2 : Int32) (x3 : Int32) (x4 : Int32) (x5 : Int32) (t0 : Int32) (S : Mem) : Option (Int32 × Mem) :=
  some (t0, S)
def f_L_does (fu : Nat) (x1 : Int32) (x2 : Int32) (x3 : Int32) (x4 : Int32) (x5 : Int32) (S : Mem) : Option (Int32 × Mem) :=
  (if x1 = 0 then b2 (fx_X7_setPhases fu x2 x3 x4 x5 0 S) (fun z12 S12 => bz z12 (fun e => (if e = 3 then some ((-99999), S12) else (if e = 1 then some ((-99999), S12) else (if e = 2 then some ((-99999), S12) else none)))) (fun v => f_L_does_129 fu x1 x2 x3 x4 x5 v S12)) else (if x1 = 1 then b2 (fx_X7_setConflict fu x2 x3 x4 x5 S) (fun z30 S30 => bz z30 (fun e => (if e = 3 then some ((-99999), S30) else (if e = 1 then some ((-99999), S30) else (if e = 2 then some ((-99999), S30) else none)))) (fun v => f_L_does_129 fu x1 x2 x3 x4 x5 v S30)) else (if x1 = 2 then b2 (fx_X7_setFlow fu x2 x3 x4 S) (fun z46 S46 => bz z46 (fun e => (if e = 3 then some ((-99999), S46) else (if e = 1 then some ((-99999), S46) else (if e = 2 then some ((-99999), S46) else none)))) (fun v => f_L_does_129 fu x1 x2 x3 x4 x5 v S46)) else (if x1 = 3 then b2 (fx_X7_setOffset fu x2 x3 S) (fun z60 S60 => bz z60 (fun e => (if e = 3 then some ((-99999), S60) else (if e = 1 then some ((-99999), S60) else (if e = 2 then some ((-99999), S60) else none)))) (fun v => f_L_does_129 fu x1 x2 x3 x4 x5 v S60)) else (if x1 = 4 then b2 (fx_L_link fu x2 x3 x4 S) (fun z76 S76 => bz z76 (fun e => (if e = 3 then some ((-99999), S76) else (if e = 1 then some ((-99999), S76) else (if e = 2 then some ((-99999), S76) else none)))) (fun v => f_L_does_129 fu x1 x2 x3 x4 x5 v S76)) else (if x1 = 5 then b2 (fx_X7_run fu x2 S) (fun z89 S89 => bz z89 (fun e => (if e = 3 then some ((-99999), S89) else (if e = 1 then some ((-99999), S89) else (if e = 2 then some ((-99999), S89) else none)))) (fun v => f_L_does_129 fu x1 x2 x3 x4 x5 v S89)) else (if x1 = 6 then b2 (fx_X7_callBus fu x2 x3 S) (fun z104 S104 => bz z104 (fun e => (if e = 3 then some ((-99999), S104) else (if e = 1 then some ((-99999), S104) else (if e = 2 then some ((-99999), S104) else none)))) (fun v => f_L_does_129 fu x1 x2 x3 x4 x5 v S104)) else (if x1 = 7 then b2 (fx_X7_improve fu S) (fun z117 S117 => bz z117 (fun e => (if e = 3 then some ((-99999), S117) else (if e = 1 then some ((-99999), S117) else (if e = 2 then some ((-99999), S117) else none)))) (fun v => f_L_does_129 fu x1 x2 x3 x4 x5 v S117)) else b2 (fx_L_begin fu x2 x3 S) (fun z126 S126 => bz z126 (fun e => (if e = 3 then some ((-99999), S126) else (if e = 1 then some ((-99999), S126) else (if e = 2 then some ((-99999), S126) else none)))) (fun v => f_L_does_129 fu x1 x2 x3 x4 x5 v S126))))))))))
def f_L_act_487 (fu : Nat) (x1 : Int32) (t0 : Int32) (S : Mem) : Option (Int32 × Mem) :=
  some (t0, S)
def f_L_act_482 (fu : Nat) (x1 : Int32) (t0 : Int32) (t1 : Int32) (t2 : Int32) (S : Mem) : Option (Int32 × Mem) :=
  b2 (f_L_does fu t2 t1 t0 0 0 S) (fun r484 S484 => f_L_act_487 fu x1 r484 S484)
def f_L_act_454 (fu : Nat) (x1 : Int32) (x2 : Int32) (t0 : Int32) (t1 : Int32) (S : Mem) : Option (Int32 × Mem) :=
  (if x2 = 0 then b1 (f_L_low fu (x1 >>> (12 &&& 31)) 31 S) (fun r478 => f_L_act_482 fu x1 (30 + r478) t0 t1 S) else b1 (f_L_low fu (x1 >>> (12 &&& 31)) 100 S) (fun r464 => f_L_act_482 fu x1 r464 t0 t1 S))
def f_L_act_381 (fu : Nat) (x1 : Int32) (t0 : Int32) (t1 : Int32) (t2 : Int32) (t3 : Int32) (S : Mem) : Option (Int32 × Mem) :=
  b1 (f_L_low fu t1 t0 S) (fun r381 => b2 (f_L_does fu t3 t2 r381 0 0 S) (fun r386 S386 => some (r386, S386)))
def f_L_act_350 (fu : Nat) (x1 : Int32) (t0 : Int32) (t1 : Int32) (S : Mem) : Option (Int32 × Mem) :=
  b2 (f_L_does fu t1 t0 0 0 0 S) (fun r353 S353 => some (r353, S353))
def f_L_act_346 (fu : Nat) (x1 : Int32) (t0 : Int32) (t1 : Int32) (t2 : Int32) (t3 : Int32) (S : Mem) : Option (Int32 × Mem) :=
  b1 (f_L_low fu t1 t0 S) (fun r346 => f_L_act_350 fu x1 (t2 + r346) t3 S)
def f_L_act_296 (fu : Nat) (x1 : Int32) (t0 : Int32) (t1 : Int32) (t2 : Int32) (t3 : Int32) (t4 : Int32) (t5 : Int32) (S : Mem) : Option (Int32 × Mem) :=
  b1 (f_L_low fu t1 t0 S) (fun r296 => b2 (f_L_does fu t5 t4 t3 (t2 + r296) 0 S) (fun r301 S301 => some (r301, S301)))
def f_L_act_277 (fu : Nat) (x1 : Int32) (x2 : Int32) (t0 : Int32) (t1 : Int32) (t2 : Int32) (t3 : Int32) (S : Mem) : Option (Int32 × Mem) :=
  b1 (f_L_low fu t1 t0 S) (fun r277 => (if x2 = 0 then f_L_act_296 fu x1 12 (x1 >>> (10 &&& 31)) 1 r277 t2 t3 S else f_L_act_296 fu x1 45 (x1 >>> (10 &&& 31)) 1 r277 t2 t3 S))
def f_L_act_243 (fu : Nat) (x1 : Int32) (t0 : Int32) (t1 : Int32) (t2 : Int32) (t3 : Int32) (S : Mem) : Option (Int32 × Mem) :=
  b1 (f_L_low fu t1 t0 S) (fun r243 => b2 (f_L_does fu t3 t2 r243 0 0 S) (fun r248 S248 => some (r248, S248)))
def f_L_act_210 (fu : Nat) (x1 : Int32) (t0 : Int32) (t1 : Int32) (t2 : Int32) (t3 : Int32) (t4 : Int32) (S : Mem) : Option (Int32 × Mem) :=
  b1 (f_L_low fu t1 t0 S) (fun r210 => b2 (f_L_does fu t4 t3 t2 r210 0 S) (fun r214 S214 => some (r214, S214)))
def f_L_act_166 (fu : Nat) (x1 : Int32) (t0 : Int32) (t1 : Int32) (t2 : Int32) (t3 : Int32) (t4 : Int32) (t5 : Int32) (S : Mem) : Option (Int32 × Mem) :=
  b1 (f_L_low fu t1 t0 S) (fun r166 => b2 (f_L_does fu t5 t4 t3 t2 (r166 - 1) S) (fun r171 S171 => some (r171, S171)))
def f_L_act_140 (fu : Nat) (x1 : Int32) (x2 : Int32) (t0 : Int32) (t1 : Int32) (t2 : Int32) (t3 : Int32) (S : Mem) : Option (Int32 × Mem) :=
  b1 (f_L_low fu t1 t0 S) (fun r140 => b1 (f_L_low fu (x1 >>> (9 &&& 31)) 4 S) (fun r148 => (if x2 = 0 then f_L_act_166 fu x1 11 (x1 >>> (11 &&& 31)) r148 r140 t2 t3 S else f_L_act_166 fu x1 13 (x1 >>> (11 &&& 31)) r148 r140 t2 t3 S)))
def f_L_act_113 (fu : Nat) (x1 : Int32) (t0 : Int32) (t1 : Int32) (t2 : Int32) (t3 : Int32) (t4 : Int32) (S : Mem) : Option (Int32 × Mem) :=
  b2 (f_L_does fu t4 t3 t2 t1 t0 S) (fun r113 S113 => some (r113, S113))
def f_L_act_76 (fu : Nat) (x1 : Int32) (x4 : Int32) (t0 : Int32) (S : Mem) : Option (Int32 × Mem) :=
  b1 (f_L_low fu (x1 >>> (7 &&& 31)) 15 S) (fun r89 => (if t0 = 0 then f_L_act_113 fu x1 0 t0 (1 + r89) x4 0 S else b1 (f_L_low fu (x1 >>> (13 &&& 31)) 16 S) (fun r110 => f_L_act_113 fu x1 r110 t0 (1 + r89) x4 0 S)))
def f_L_act_41 (fu : Nat) (x1 : Int32) (x2 : Int32) (x3 : Int32) (t0 : Int32) (t1 : Int32) (S : Mem) : Option (Int32 × Mem) :=
  b1 (f_L_low fu t1 t0 S) (fun r41 => (if (4 : Int32) ≤ x3 then (if (8 : Int32) ≤ x3 then (if (13 : Int32) ≤ x3 then (if (16 : Int32) ≤ x3 then (if (18 : Int32) ≤ x3 then (if (26 : Int32) ≤ x3 then (if (30 : Int32) ≤ x3 then (if x3 = 30 then b2 (f_L_does fu 7 0 0 0 0 S) (fun r403 S403 => f_L_act_487 fu x1 r403 S403) else (if ((x1 >>> (8 &&& 31)) &&& 1) = 0 then b1 (f_X7_clock fu S) (fun r419 => f_L_act_487 fu x1 r419 S) else (if x2 = 0 then b1 (f_L_low fu (x1 >>> (9 &&& 31)) 3 S) (fun r450 => f_L_act_454 fu x1 x2 (2 + r450) 8 S) else b1 (f_L_low fu (x1 >>> (9 &&& 31)) 8 S) (fun r438 => f_L_act_454 fu x1 x2 r438 8 S)))) else (if x2 = 0 then f_L_act_381 fu x1 4 (x1 >>> (7 &&& 31)) r41 6 S else f_L_act_381 fu x1 5 (x1 >>> (7 &&& 31)) r41 6 S)) else (if x2 = 0 then (if (20 : Int32) ≤ x3 then f_L_act_346 fu x1 15 (x1 >>> (5 &&& 31)) 1 5 S else f_L_act_346 fu x1 120 (x1 >>> (5 &&& 31)) 1 5 S) else b1 (f_L_low fu (x1 >>> (5 &&& 31)) 700 S) (fun r323 => f_L_act_350 fu x1 r323 5 S))) else (if x2 = 0 then f_L_act_277 fu x1 x2 40 (x1 >>> (7 &&& 31)) r41 4 S else f_L_act_277 fu x1 x2 70 (x1 >>> (7 &&& 31)) r41 4 S)) else (if x2 = 0 then f_L_act_243 fu x1 30 (x1 >>> (7 &&& 31)) r41 3 S else f_L_act_243 fu x1 95 (x1 >>> (7 &&& 31)) r41 3 S)) else b1 (f_L_low fu (x1 >>> (7 &&& 31)) 4 S) (fun r190 => (if x2 = 0 then f_L_act_210 fu x1 1801 (x1 >>> (9 &&& 31)) r190 r41 2 S else f_L_act_210 fu x1 2000 (x1 >>> (9 &&& 31)) r190 r41 2 S))) else (if x2 = 0 then f_L_act_140 fu x1 x2 4 (x1 >>> (7 &&& 31)) r41 1 S else f_L_act_140 fu x1 x2 5 (x1 >>> (7 &&& 31)) r41 1 S)) else (if x2 = 0 then b1 (f_L_low fu (x1 >>> (10 &&& 31)) 16 S) (fun r73 => f_L_act_76 fu x1 r41 r73 S) else b1 (f_L_low fu (x1 >>> (10 &&& 31)) 18 S) (fun r61 => f_L_act_76 fu x1 r41 r61 S))))
def f_L_act_17 (fu : Nat) (x1 : Int32) (t0 : Int32) (S : Mem) : Option (Int32 × Mem) :=
  b1 (f_L_low fu x1 32 S) (fun r21 => (if t0 = 0 then b1 (f_X7_junctions fu S) (fun r38 => f_L_act_41 fu x1 t0 r21 r38 (x1 >>> (4 &&& 31)) S) else f_L_act_41 fu x1 t0 r21 7 (x1 >>> (4 &&& 31)) S))
def f_L_act (fu : Nat) (x1 : Int32) (S : Mem) : Option (Int32 × Mem) :=
  b1 (f_L_low fu (x1 >>> (24 &&& 31)) 8 S) (fun r6 => (if r6 = 0 then f_L_act_17 fu x1 1 S else f_L_act_17 fu x1 0 S))
def f_L_cycle_4 (fu : Nat) (x1 : Int32) (S : Mem) : Nat → Int32 → Int32 → Option Int32
  | 0, _, _ => none
  | n + 1, x2, x3 => b1 (f_L_green fu x1 x3 S) (fun r7 => (if r7 < 0 then some x2 else b1 (f_L_green fu x1 x3 S) (fun r17 => b1 (f_X7_clearing fu x1 x3 S) (fun r23 => f_L_cycle_4 fu x1 S n (x2 + (r17 + r23)) (x3 + 1)))))
def f_L_cycle (fu : Nat) (x1 : Int32) (S : Mem) : Option Int32 :=
  f_L_cycle_4 fu x1 S 6 0 0
def f_L_arePlansSo_416 (fu : Nat) (x1 : Int32) (t0 : Int32) (S : Mem) : Option (Int32 × Mem) :=
  some (nb t0, S)
def f_L_arePlansSo_415 (fu : Nat) (x1 : Int32) (S : Mem) : Option (Int32 × Mem) :=
  f_L_arePlansSo_416 fu x1 0 S
def f_L_arePlansSo_408 (fu : Nat) (x1 : Int32) (t0 : Int32) (t1 : Int32) (S : Mem) : Option (Int32 × Mem) :=
  (if t1 = t0 then f_L_arePlansSo_416 fu x1 1 S else f_L_arePlansSo_415 fu x1 S)
def f_L_arePlansSo_398 (fu : Nat) (x1 : Int32) (x5 : Int32) (t0 : Int32) (S : Mem) : Option (Int32 × Mem) :=
  (if (0 : Int32) ≤ x5 then f_L_arePlansSo_408 fu x1 0 t0 S else f_L_arePlansSo_408 fu x1 1 t0 S)
def f_L_arePlansSo_388 (fu : Nat) (x1 : Int32) (x4 : Int32) (x5 : Int32) (S : Mem) : Option (Int32 × Mem) :=
  (if (0 : Int32) ≤ x4 then f_L_arePlansSo_398 fu x1 x5 0 S else f_L_arePlansSo_398 fu x1 x5 1 S)
def f_L_arePlansSo_348 (fu : Nat) (x1 : Int32) (x2 : Int32) (x3 : Int32) (S : Mem) : Option (Int32 × Mem) :=
  b2 (f_L_band fu 1 S) (fun r350 S350 => b2 (f_L_band fu 0 S350) (fun r357 S357 => (if x3 = 0 then f_L_arePlansSo_415 fu x1 S357 else (if r350 < 0 then f_L_arePlansSo_388 fu x1 r350 r357 S357 else (if x2 < r350 then f_L_arePlansSo_415 fu x1 S357 else (if r357 < 0 then f_L_arePlansSo_415 fu x1 S357 else (if x2 < r357 then f_L_arePlansSo_415 fu x1 S357 else f_L_arePlansSo_388 fu x1 r350 r357 S357)))))))
def f_L_arePlansSo_342 (fu : Nat) (K7 : Int32 → Int32 → Int32 → Mem → Option (Int32 × Mem)) (x1 : Int32) (x2 : Int32) (x3 : Int32) (x4 : Int32) (S : Mem) : Option (Int32 × Mem) :=
  K7 x2 x3 (x4 + 1) S
def f_L_arePlansSo_341 (fu : Nat) (K7 : Int32 → Int32 → Int32 → Mem → Option (Int32 × Mem)) (x1 : Int32) (x2 : Int32) (x4 : Int32) (t0 : Int32) (S : Mem) : Option (Int32 × Mem) :=
  f_L_arePlansSo_342 fu K7 x1 x2 t0 x4 S
def f_L_arePlansSo_340 (fu : Nat) (K7 : Int32 → Int32 → Int32 → Mem → Option (Int32 × Mem)) (x1 : Int32) (x2 : Int32) (x4 : Int32) (S : Mem) : Option (Int32 × Mem) :=
  f_L_arePlansSo_341 fu K7 x1 x2 x4 0 S
def f_L_arePlansSo_295 (fu : Nat) (K250 : Int32 → Int32 → Int32 → Int32 → Int32 → Int32 → Int32 → Mem → Option (Int32 × Mem)) (x1 : Int32) (x2 : Int32) (x4 : Int32) (x5 : Int32) (x6 : Int32) (x7 : Int32) (x8 : Int32) (t0 : Int32) (S : Mem) : Option (Int32 × Mem) :=
  K250 x2 t0 x4 x5 x6 x7 (x8 + 1) S
def f_L_arePlansSo_294 (fu : Nat) (K250 : Int32 → Int32 → Int32 → Int32 → Int32 → Int32 → Int32 → Mem → Option (Int32 × Mem)) (x1 : Int32) (x2 : Int32) (x4 : Int32) (x5 : Int32) (x6 : Int32) (x7 : Int32) (x8 : Int32) (S : Mem) : Option (Int32 × Mem) :=
  f_L_arePlansSo_295 fu K250 x1 x2 x4 x5 x6 x7 x8 0 S
def f_L_arePlansSo_250 (fu : Nat) (K7 : Int32 → Int32 → Int32 → Mem → Option (Int32 × Mem)) (x1 : Int32) : Nat → Int32 → Int32 → Int32 → Int32 → Int32 → Int32 → Int32 → Mem → Option (Int32 × Mem)
  | 0, _, _, _, _, _, _, _, _ => none
  | n + 1, x2, x3, x4, x5, x6, x7, x8, S => b1 (f_L_green fu x4 x8 S) (fun r255 => (if r255 < 0 then (if x3 = 0 then f_L_arePlansSo_340 fu K7 x1 x2 x4 S else (if x6 = (x5 - x7) then b1 (f_X7_breaches fu x4 S) (fun r319 => (if r319 < 0 then f_L_arePlansSo_340 fu K7 x1 x2 x4 S else b1 (f_X7_breaches fu x4 S) (fun r328 => (if x5 < r328 then f_L_arePlansSo_340 fu K7 x1 x2 x4 S else f_L_arePlansSo_341 fu K7 x1 x2 x4 1 S)))) else f_L_arePlansSo_340 fu K7 x1 x2 x4 S)) else b1 (f_X7_clearing fu x4 x8 S) (fun r268 => (if x3 = 0 then f_L_arePlansSo_294 fu (f_L_arePlansSo_250 fu K7 x1 n) x1 x2 x4 x5 x6 (x7 + r268) x8 S else b1 (f_L_green fu x4 x8 S) (fun r283 => (if r283 < 5 then f_L_arePlansSo_294 fu (f_L_arePlansSo_250 fu K7 x1 n) x1 x2 x4 x5 x6 (x7 + r268) x8 S else f_L_arePlansSo_295 fu (f_L_arePlansSo_250 fu K7 x1 n) x1 x2 x4 x5 x6 (x7 + r268) x8 1 S))))))
def f_L_arePlansSo_244 (fu : Nat) (K7 : Int32 → Int32 → Int32 → Mem → Option (Int32 × Mem)) (x1 : Int32) (x2 : Int32) (x3 : Int32) (x4 : Int32) (x5 : Int32) (x6 : Int32) (S : Mem) : Option (Int32 × Mem) :=
  f_L_arePlansSo_250 fu K7 x1 6 x2 x3 x4 x5 x6 0 0 S
def f_L_arePlansSo_235 (fu : Nat) (K129 : Int32 → Int32 → Int32 → Int32 → Int32 → Int32 → Mem → Option (Int32 × Mem)) (x1 : Int32) (x2 : Int32) (x3 : Int32) (x4 : Int32) (x5 : Int32) (x7 : Int32) (t0 : Int32) (t1 : Int32) (S : Mem) : Option (Int32 × Mem) :=
  K129 x2 x3 x4 x5 (t1 + t0) (x7 + 1) S
def f_L_arePlansSo_222 (fu : Nat) (K129 : Int32 → Int32 → Int32 → Int32 → Int32 → Int32 → Mem → Option (Int32 × Mem)) (x1 : Int32) (x2 : Int32) (x4 : Int32) (x5 : Int32) (x6 : Int32) (x7 : Int32) (x8 : Int32) (t0 : Int32) (S : Mem) : Option (Int32 × Mem) :=
  (if x8 ≤ 0 then f_L_arePlansSo_235 fu K129 x1 x2 t0 x4 x5 x7 0 x6 S else f_L_arePlansSo_235 fu K129 x1 x2 t0 x4 x5 x7 1 x6 S)
def f_L_arePlansSo_174 (fu : Nat) (K146 : Int32 → Int32 → Int32 → Int32 → Int32 → Int32 → Int32 → Mem → Option (Int32 × Mem)) (x1 : Int32) (x2 : Int32) (x4 : Int32) (x5 : Int32) (x6 : Int32) (x7 : Int32) (x9 : Int32) (t0 : Int32) (t1 : Int32) (S : Mem) : Option (Int32 × Mem) :=
  K146 x2 x4 x5 x6 x7 (t1 + t0) (x9 + 1) S
def f_L_arePlansSo_146 (fu : Nat) (K129 : Int32 → Int32 → Int32 → Int32 → Int32 → Int32 → Mem → Option (Int32 × Mem)) (x1 : Int32) : Nat → Int32 → Int32 → Int32 → Int32 → Int32 → Int32 → Int32 → Mem → Option (Int32 × Mem)
  | 0, _, _, _, _, _, _, _, _ => none
  | n + 1, x2, x4, x5, x6, x7, x8, x9, S => (if (4 : Int32) ≤ x9 then gd (!((4 : Int32) == 0)) (b1 (f_X7_isGreen fu x4 (x7 - x7 / 4 * 4) (x1 + x7) S) (fun r194 => gd (!((4 : Int32) == 0)) (b1 (f_X7_isGreen fu x4 (x7 - x7 / 4 * 4) ((x1 + x7) + x5) S) (fun r211 => (if r194 = r211 then f_L_arePlansSo_222 fu K129 x1 x2 x4 x5 x6 x7 x8 1 S else f_L_arePlansSo_222 fu K129 x1 x2 x4 x5 x6 x7 x8 0 S))))) else b1 (f_X7_isGreen fu x4 x9 (x1 + x7) S) (fun r163 => (if r163 = 0 then f_L_arePlansSo_174 fu (f_L_arePlansSo_146 fu K129 x1 n) x1 x2 x4 x5 x6 x7 x9 0 x8 S else f_L_arePlansSo_174 fu (f_L_arePlansSo_146 fu K129 x1 n) x1 x2 x4 x5 x6 x7 x9 1 x8 S)))
def f_L_arePlansSo_129 (fu : Nat) (K7 : Int32 → Int32 → Int32 → Mem → Option (Int32 × Mem)) (x1 : Int32) : Nat → Int32 → Int32 → Int32 → Int32 → Int32 → Int32 → Mem → Option (Int32 × Mem)
  | 0, _, _, _, _, _, _, _ => none
  | n + 1, x2, x3, x4, x5, x6, x7, S => (if x5 ≤ x7 then f_L_arePlansSo_244 fu K7 x1 x2 x3 x4 x5 x6 S else (if x3 = 0 then f_L_arePlansSo_244 fu K7 x1 x2 x3 x4 x5 x6 S else f_L_arePlansSo_146 fu (f_L_arePlansSo_129 fu K7 x1 n) x1 6 x2 x4 x5 x6 x7 0 0 S))
def f_L_arePlansSo_113 (fu : Nat) (K7 : Int32 → Int32 → Int32 → Mem → Option (Int32 × Mem)) (x1 : Int32) (x3 : Int32) (x4 : Int32) (x5 : Int32) (t0 : Int32) (S : Mem) : Option (Int32 × Mem) :=
  (if x5 ≤ 0 then f_L_arePlansSo_342 fu K7 x1 t0 x3 x4 S else (if x3 = 0 then f_L_arePlansSo_342 fu K7 x1 t0 x3 x4 S else f_L_arePlansSo_129 fu K7 x1 92 t0 x3 x4 x5 0 0 S))
def f_L_arePlansSo_101 (fu : Nat) (K7 : Int32 → Int32 → Int32 → Mem → Option (Int32 × Mem)) (x1 : Int32) (x2 : Int32) (x4 : Int32) (x5 : Int32) (t0 : Int32) (S : Mem) : Option (Int32 × Mem) :=
  (if x5 ≤ 0 then f_L_arePlansSo_113 fu K7 x1 t0 x4 x5 x2 S else f_L_arePlansSo_113 fu K7 x1 t0 x4 x5 x5 S)
def f_L_arePlansSo_100 (fu : Nat) (K7 : Int32 → Int32 → Int32 → Mem → Option (Int32 × Mem)) (x1 : Int32) (x2 : Int32) (x4 : Int32) (x5 : Int32) (S : Mem) : Option (Int32 × Mem) :=
  f_L_arePlansSo_101 fu K7 x1 x2 x4 x5 0 S
def f_L_arePlansSo_76 (fu : Nat) (K7 : Int32 → Int32 → Int32 → Mem → Option (Int32 × Mem)) (x1 : Int32) (x2 : Int32) (x4 : Int32) (x5 : Int32) (S : Mem) : Option (Int32 × Mem) :=
  b1 (f_X7_offset fu x4 S) (fun r79 => (if r79 < 0 then f_L_arePlansSo_100 fu K7 x1 x2 x4 x5 S else b1 (f_X7_offset fu x4 S) (fun r88 => (if (90 : Int32) ≤ r88 then f_L_arePlansSo_100 fu K7 x1 x2 x4 x5 S else f_L_arePlansSo_101 fu K7 x1 x2 x4 x5 1 S))))
def f_L_arePlansSo_44 (fu : Nat) (K7 : Int32 → Int32 → Int32 → Mem → Option (Int32 × Mem)) (x1 : Int32) (x2 : Int32) (x4 : Int32) (x5 : Int32) (t0 : Int32) (t1 : Int32) (S : Mem) : Option (Int32 × Mem) :=
  (if t1 = t0 then (if x5 = 0 then f_L_arePlansSo_76 fu K7 x1 x2 x4 x5 S else (if x5 < 30 then f_L_arePlansSo_100 fu K7 x1 x2 x4 x5 S else (if (90 : Int32) < x5 then f_L_arePlansSo_100 fu K7 x1 x2 x4 x5 S else (if x2 = 0 then f_L_arePlansSo_76 fu K7 x1 x2 x4 x5 S else (if x2 = x5 then f_L_arePlansSo_76 fu K7 x1 x2 x4 x5 S else f_L_arePlansSo_100 fu K7 x1 x2 x4 x5 S))))) else f_L_arePlansSo_100 fu K7 x1 x2 x4 x5 S)
def f_L_arePlansSo_7 (fu : Nat) (x1 : Int32) : Nat → Int32 → Int32 → Int32 → Mem → Option (Int32 × Mem)
  | 0, _, _, _, _ => none
  | n + 1, x2, x3, x4, S => b1 (f_X7_junctions fu S) (fun r10 => (if r10 ≤ x4 then f_L_arePlansSo_348 fu x1 x2 x3 S else (if x3 = 0 then f_L_arePlansSo_348 fu x1 x2 x3 S else b1 (f_L_cycle fu x4 S) (fun r23 => b1 (f_X7_hasPlan fu x4 S) (fun r31 => (if r23 ≤ 0 then f_L_arePlansSo_44 fu (f_L_arePlansSo_7 fu x1 n) x1 x2 x4 r23 0 r31 S else f_L_arePlansSo_44 fu (f_L_arePlansSo_7 fu x1 n) x1 x2 x4 r23 1 r31 S))))))
def f_L_arePlansSo (fu : Nat) (x1 : Int32) (S : Mem) : Option (Int32 × Mem) :=
  f_L_arePlansSo_7 fu x1 7 0 1 0 S
def f_L_areVehiclesSo_173 (fu : Nat) (S : Mem) (t0 : Int32) : Option Int32 :=
  some (nb t0)
def f_L_areVehiclesSo_172 (fu : Nat) (S : Mem)  : Option Int32 :=
  f_L_areVehiclesSo_173 fu S 0
def f_L_areVehiclesSo_156 (fu : Nat) (S : Mem) (x1 : Int32) (x2 : Int32) : Option Int32 :=
  (if x2 = 0 then f_L_areVehiclesSo_172 fu S else b1 (f_X7_come fu S) (fun r161 => (if r161 = x1 then f_L_areVehiclesSo_173 fu S 1 else f_L_areVehiclesSo_172 fu S)))
def f_L_areVehiclesSo_149 (fu : Nat) (K62 : Int32 → Int32 → Int32 → Option Int32) (S : Mem) (x1 : Int32) (x3 : Int32) (t0 : Int32) : Option Int32 :=
  K62 x1 t0 (x3 + 1)
def f_L_areVehiclesSo_148 (fu : Nat) (K62 : Int32 → Int32 → Int32 → Option Int32) (S : Mem) (x1 : Int32) (x3 : Int32) : Option Int32 :=
  f_L_areVehiclesSo_149 fu K62 S x1 x3 0
def f_L_areVehiclesSo_135 (fu : Nat) (K62 : Int32 → Int32 → Int32 → Option Int32) (S : Mem) (x1 : Int32) (x3 : Int32) : Option Int32 :=
  b1 (f_L_phaseNow fu x3 S) (fun r137 => (if (4 : Int32) ≤ r137 then f_L_areVehiclesSo_148 fu K62 S x1 x3 else f_L_areVehiclesSo_149 fu K62 S x1 x3 1))
def f_L_areVehiclesSo_94 (fu : Nat) (K62 : Int32 → Int32 → Int32 → Option Int32) (S : Mem) (x3 : Int32) (t0 : Int32) (t1 : Int32) : Option Int32 :=
  b1 (f_X7_queue fu x3 S) (fun r98 => (if r98 < 0 then f_L_areVehiclesSo_148 fu K62 S (t1 + t0) x3 else (if x3 = 0 then f_L_areVehiclesSo_135 fu K62 S (t1 + t0) x3 else b1 (f_X7_held fu (x3 - 1) S) (fun r112 => b1 (f_X7_queue fu x3 S) (fun r117 => (if r112 < r117 then f_L_areVehiclesSo_148 fu K62 S (t1 + t0) x3 else b1 (f_X7_held fu (x3 - 1) S) (fun r127 => (if (40 : Int32) < r127 then f_L_areVehiclesSo_148 fu K62 S (t1 + t0) x3 else f_L_areVehiclesSo_135 fu K62 S (t1 + t0) x3))))))))
def f_L_areVehiclesSo_62 (fu : Nat) (S : Mem) : Nat → Int32 → Int32 → Int32 → Option Int32
  | 0, _, _, _ => none
  | n + 1, x1, x2, x3 => b1 (f_X7_junctions fu S) (fun r64 => (if r64 ≤ x3 then f_L_areVehiclesSo_156 fu S x1 x2 else (if x2 = 0 then f_L_areVehiclesSo_156 fu S x1 x2 else b1 (f_X7_junctions fu S) (fun r77 => (if (r77 - 1) ≤ x3 then f_L_areVehiclesSo_94 fu (f_L_areVehiclesSo_62 fu S n) S x3 0 x1 else b1 (f_X7_held fu x3 S) (fun r87 => f_L_areVehiclesSo_94 fu (f_L_areVehiclesSo_62 fu S n) S x3 r87 x1))))))
def f_L_areVehiclesSo_59 (fu : Nat) (S : Mem) (x1 : Int32) (t0 : Int32) : Option Int32 :=
  f_L_areVehiclesSo_62 fu S 7 x1 t0 0
def f_L_areVehiclesSo_58 (fu : Nat) (S : Mem) (x1 : Int32) : Option Int32 :=
  f_L_areVehiclesSo_59 fu S x1 0
def f_L_areVehiclesSo (fu : Nat) (S : Mem) : Option Int32 :=
  b1 (f_X7_through fu S) (fun r1 => b1 (f_X7_queue fu 0 S) (fun r6 => b1 (f_X7_clock fu S) (fun r12 => (if r12 < 0 then f_L_areVehiclesSo_58 fu S (r1 + r6) else b1 (f_X7_clock fu S) (fun r19 => (if (7200 : Int32) < r19 then f_L_areVehiclesSo_58 fu S (r1 + r6) else b1 (f_X7_come fu S) (fun r30 => b1 (f_X7_clock fu S) (fun r35 => (if r35 < (2 * r30) then f_L_areVehiclesSo_58 fu S (r1 + r6) else b1 (f_X7_through fu S) (fun r43 => b1 (f_X7_clock fu S) (fun r48 => (if r48 < (2 * r43) then f_L_areVehiclesSo_58 fu S (r1 + r6) else f_L_areVehiclesSo_59 fu S (r1 + r6) 1))))))))))))
def f_L_areAlike_184 (fu : Nat) (x2 : Int32) (S : Mem) (S2 : Mem) : Option (Int32 × Mem × Mem) :=
  some (nb x2, S, S2)
def f_L_areAlike_177 (fu : Nat) (K78 : Int32 → Int32 → Mem → Mem → Option (Int32 × Mem × Mem)) (x3 : Int32) (t0 : Int32) (S : Mem) (S2 : Mem) : Option (Int32 × Mem × Mem) :=
  K78 t0 (x3 + 1) S S2
def f_L_areAlike_176 (fu : Nat) (K78 : Int32 → Int32 → Mem → Mem → Option (Int32 × Mem × Mem)) (x3 : Int32) (S : Mem) (S2 : Mem) : Option (Int32 × Mem × Mem) :=
  f_L_areAlike_177 fu K78 x3 0 S S2
def f_L_areAlike_78 (fu : Nat) : Nat → Int32 → Int32 → Mem → Mem → Option (Int32 × Mem × Mem)
  | 0, _, _, _, _ => none
  | n + 1, x2, x3, S, S2 => b1 (f_X7_junctions fu S) (fun r80 => (if r80 ≤ x3 then f_L_areAlike_184 fu x2 S S2 else (if x2 = 0 then f_L_areAlike_184 fu x2 S S2 else b1 (f_X7_hasPlan fu x3 S) (fun r92 => b1 (f_X7_hasPlan fu x3 S2) (fun r97 => (if r92 = r97 then b1 (f_X7_offset fu x3 S) (fun r105 => b1 (f_X7_offset fu x3 S2) (fun r110 => (if r105 = r110 then b1 (f_X7_queue fu x3 S) (fun r118 => b1 (f_X7_queue fu x3 S2) (fun r123 => (if r118 = r123 then b1 (f_L_phaseNow fu x3 S) (fun r131 => b1 (f_L_phaseNow fu x3 S2) (fun r136 => (if r131 = r136 then b1 (f_L_green fu x3 0 S) (fun r145 => b1 (f_L_green fu x3 0 S2) (fun r151 => (if r145 = r151 then b1 (f_X7_clearing fu x3 0 S) (fun r160 => b1 (f_X7_clearing fu x3 0 S2) (fun r166 => (if r160 = r166 then f_L_areAlike_177 fu (f_L_areAlike_78 fu n) x3 1 S S2 else f_L_areAlike_176 fu (f_L_areAlike_78 fu n) x3 S S2))) else f_L_areAlike_176 fu (f_L_areAlike_78 fu n) x3 S S2))) else f_L_areAlike_176 fu (f_L_areAlike_78 fu n) x3 S S2))) else f_L_areAlike_176 fu (f_L_areAlike_78 fu n) x3 S S2))) else f_L_areAlike_176 fu (f_L_areAlike_78 fu n) x3 S S2))) else f_L_areAlike_176 fu (f_L_areAlike_78 fu n) x3 S S2))))))
def f_L_areAlike_75 (fu : Nat) (t0 : Int32) (S : Mem) (S2 : Mem) : Option (Int32 × Mem × Mem) :=
  f_L_areAlike_78 fu 7 t0 0 S S2
def f_L_areAlike_74 (fu : Nat) (S : Mem) (S2 : Mem) : Option (Int32 × Mem × Mem) :=
  f_L_areAlike_75 fu 0 S S2
def f_L_areAlike (fu : Nat) (S : Mem) (S2 : Mem) : Option (Int32 × Mem × Mem) :=
  b1 (f_X7_junctions fu S) (fun r1 => b1 (f_X7_junctions fu S2) (fun r5 => (if r1 = r5 then b1 (f_X7_clock fu S) (fun r12 => b1 (f_X7_clock fu S2) (fun r16 => (if r12 = r16 then b1 (f_X7_come fu S) (fun r23 => b1 (f_X7_come fu S2) (fun r27 => (if r23 = r27 then b1 (f_X7_through fu S) (fun r34 => b1 (f_X7_through fu S2) (fun r38 => (if r34 = r38 then b2 (f_L_band fu 1 S) (fun r46 S46 => b2 (f_L_band fu 1 S2) (fun r51 S51 => (if r46 = r51 then b2 (f_L_band fu 0 S46) (fun r59 S59 => b2 (f_L_band fu 0 S51) (fun r64 S64 => (if r59 = r64 then f_L_areAlike_75 fu 1 S59 S64 else f_L_areAlike_74 fu S59 S64))) else f_L_areAlike_74 fu S46 S51))) else f_L_areAlike_74 fu S S2))) else f_L_areAlike_74 fu S S2))) else f_L_areAlike_74 fu S S2))) else f_L_areAlike_74 fu S S2)))
def f_L_isCalledSo_180 (fu : Nat) (x2 : Int32) (x3 : Int32) (t0 : Int32) (S : Mem) (S2 : Mem) : Option (Int32 × Mem × Mem) :=
  some (nb t0, S, S2)
def f_L_isCalledSo_179 (fu : Nat) (x2 : Int32) (x3 : Int32) (S : Mem) (S2 : Mem) : Option (Int32 × Mem × Mem) :=
  f_L_isCalledSo_180 fu x2 x3 0 S S2
def f_L_isCalledSo_175 (fu : Nat) (x2 : Int32) (x3 : Int32) (S : Mem) (S2 : Mem) : Option (Int32 × Mem × Mem) :=
  f_L_isCalledSo_180 fu x2 x3 1 S S2
def f_L_isCalledSo_96 (fu : Nat) (x2 : Int32) (x3 : Int32) (t0 : Int32) (S : Mem) (S2 : Mem) : Option (Int32 × Mem × Mem) :=
  b1 (f_X7_clock fu S) (fun r99 => b2 (f_L_does fu 5 1 0 0 0 S) (fun r110 S110 => (if t0 = 0 then f_L_isCalledSo_179 fu x2 x3 S110 S2 else b2 (f_L_does fu 5 1 0 0 0 S2) (fun r126 S126 => (if r126 = r110 then (if r110 = (-99999) then b1 (f_X7_clock fu S110) (fun r142 => (if r142 = r99 then f_L_isCalledSo_175 fu x2 x3 S110 S126 else f_L_isCalledSo_179 fu x2 x3 S110 S126)) else (if r110 < 0 then f_L_isCalledSo_179 fu x2 x3 S110 S126 else (if (1 : Int32) < r110 then f_L_isCalledSo_179 fu x2 x3 S110 S126 else b1 (f_X7_clock fu S110) (fun r165 => (if r165 = (r99 + 1) then f_L_isCalledSo_175 fu x2 x3 S110 S126 else f_L_isCalledSo_179 fu x2 x3 S110 S126))))) else f_L_isCalledSo_179 fu x2 x3 S110 S126)))))
def f_L_isCalledSo_95 (fu : Nat) (x2 : Int32) (x3 : Int32) (S : Mem) (S2 : Mem) : Option (Int32 × Mem × Mem) :=
  f_L_isCalledSo_96 fu x2 x3 0 S S2
def f_L_isCalledSo_91 (fu : Nat) (x2 : Int32) (x3 : Int32) (S : Mem) (S2 : Mem) : Option (Int32 × Mem × Mem) :=
  f_L_isCalledSo_96 fu x2 x3 1 S S2
def f_L_isCalledSo (fu : Nat) (x2 : Int32) (x3 : Int32) (S : Mem) (S2 : Mem) : Option (Int32 × Mem × Mem) :=
  b1 (f_L_phaseNow fu x2 S) (fun r2 => b2 (f_L_does fu 6 x2 x3 0 0 S) (fun r14 S14 => b2 (f_L_does fu 6 x2 x3 0 0 S2) (fun r26 S26 => (if r26 = r14 then (if r14 = (-99999) then f_L_isCalledSo_91 fu x2 x3 S14 S26 else (if r14 < 0 then f_L_isCalledSo_95 fu x2 x3 S14 S26 else (if (5 : Int32) < r14 then f_L_isCalledSo_95 fu x2 x3 S14 S26 else b1 (f_L_phaseNow fu x2 S14) (fun r54 => (if r54 = r2 then b2 (f_L_does fu 6 x2 x3 0 0 S14) (fun r69 S69 => (if r69 = (-99999) then b2 (f_L_does fu 3 x2 0 0 0 S69) (fun r83 S83 => (if r83 = (-99999) then f_L_isCalledSo_91 fu x2 x3 S83 S26 else f_L_isCalledSo_95 fu x2 x3 S83 S26)) else f_L_isCalledSo_95 fu x2 x3 S69 S26)) else f_L_isCalledSo_95 fu x2 x3 S14 S26))))) else f_L_isCalledSo_95 fu x2 x3 S14 S26))))
/-- a cell of the script, or what stands for it behind its end -/
def f_L_cell (xs : Nat → Int32) (Ln : Nat) (x : Int32) : Option Int32 := if Int32.ofNat Ln ≤ x then some (7919 * (x + 449) * (x + 2741)) else gd (inb x Ln) (some (xs x.toNatClampNeg))
def f_L_law_291 (fu : Nat) (xs : Nat → Int32) (Ln : Nat) (t0 : Int32) (S : Mem) (S2 : Mem) : Option (Int32 × Mem × Mem) :=
  some (t0, S, S2)
def f_L_law_290 (fu : Nat) (xs : Nat → Int32) (Ln : Nat) (S : Mem) (S2 : Mem) : Option (Int32 × Mem × Mem) :=
  f_L_law_291 fu xs Ln 0 S S2
def f_L_law_265 (fu : Nat) (xs : Nat → Int32) (Ln : Nat) (x4 : Int32) (S : Mem) (S2 : Mem) : Option (Int32 × Mem × Mem) :=
  (if x4 = 0 then f_L_law_290 fu xs Ln S S2 else b3 (f_L_areAlike fu S S2) (fun r272 S272 T272 => (if r272 = 0 then f_L_law_290 fu xs Ln S272 T272 else b2 (f_L_arePlansSo fu 0 S272) (fun r280 S280 => (if r280 = 0 then f_L_law_290 fu xs Ln S280 T272 else f_L_law_291 fu xs Ln 1 S280 T272)))))
def f_L_law_259 (fu : Nat) (K66 : Int32 → Int32 → Mem → Mem → Option (Int32 × Mem × Mem)) (xs : Nat → Int32) (Ln : Nat) (x4 : Int32) (x5 : Int32) (S : Mem) (S2 : Mem) : Option (Int32 × Mem × Mem) :=
  K66 x4 (x5 + 1) S S2
def f_L_law_257 (fu : Nat) (K66 : Int32 → Int32 → Mem → Mem → Option (Int32 × Mem × Mem)) (xs : Nat → Int32) (Ln : Nat) (x5 : Int32) (t0 : Int32) (S : Mem) (S2 : Mem) : Option (Int32 × Mem × Mem) :=
  f_L_law_259 fu K66 xs Ln t0 x5 S S2
def f_L_law_256 (fu : Nat) (K66 : Int32 → Int32 → Mem → Mem → Option (Int32 × Mem × Mem)) (xs : Nat → Int32) (Ln : Nat) (x5 : Int32) (S : Mem) (S2 : Mem) : Option (Int32 × Mem × Mem) :=
  f_L_law_257 fu K66 xs Ln x5 0 S S2
def f_L_law_201 (fu : Nat) (K66 : Int32 → Int32 → Mem → Mem → Option (Int32 × Mem × Mem)) (xs : Nat → Int32) (Ln : Nat) (x5 : Int32) (x6 : Int32) (t0 : Int32) (S : Mem) (S2 : Mem) : Option (Int32 × Mem × Mem) :=
  (if x5 ≤ 20 then f_L_law_259 fu K66 xs Ln t0 x5 S S2 else gd (!((7 : Int32) == 0)) ((if (x5 - x5 / 7 * 7) = 5 then (if t0 = 0 then f_L_law_256 fu K66 xs Ln x5 S S2 else b1 (f_X7_junctions fu S) (fun r231 => b1 (f_L_low fu (x6 >>> (3 &&& 31)) r231 S) (fun r234 => b1 (f_L_low fu (x6 >>> (6 &&& 31)) 4 S) (fun r243 => b3 (f_L_isCalledSo fu r234 r243 S S2) (fun r246 S246 T246 => (if r246 = 0 then f_L_law_256 fu K66 xs Ln x5 S246 T246 else f_L_law_257 fu K66 xs Ln x5 1 S246 T246)))))) else f_L_law_259 fu K66 xs Ln t0 x5 S S2)))
def f_L_law_200 (fu : Nat) (K66 : Int32 → Int32 → Mem → Mem → Option (Int32 × Mem × Mem)) (xs : Nat → Int32) (Ln : Nat) (x5 : Int32) (x6 : Int32) (S : Mem) (S2 : Mem) : Option (Int32 × Mem × Mem) :=
  f_L_law_201 fu K66 xs Ln x5 x6 0 S S2
def f_L_law_189 (fu : Nat) (K66 : Int32 → Int32 → Mem → Mem → Option (Int32 × Mem × Mem)) (xs : Nat → Int32) (Ln : Nat) (x5 : Int32) (x6 : Int32) (S : Mem) (S2 : Mem) : Option (Int32 × Mem × Mem) :=
  b1 (f_L_areVehiclesSo fu S) (fun r190 => (if r190 = 0 then f_L_law_200 fu K66 xs Ln x5 x6 S S2 else f_L_law_201 fu K66 xs Ln x5 x6 1 S S2))
def f_L_law_162 (fu : Nat) (K66 : Int32 → Int32 → Mem → Mem → Option (Int32 × Mem × Mem)) (xs : Nat → Int32) (Ln : Nat) (x5 : Int32) (x6 : Int32) (S : Mem) (S2 : Mem) : Option (Int32 × Mem × Mem) :=
  gd (!((6 : Int32) == 0)) ((if (x5 - x5 / 6 * 6) = 2 then b1 (f_L_low fu (x6 >>> (6 &&& 31)) 500 S) (fun r180 => b2 (f_L_arePlansSo fu r180 S) (fun r183 S183 => (if r183 = 0 then f_L_law_200 fu K66 xs Ln x5 x6 S183 S2 else f_L_law_189 fu K66 xs Ln x5 x6 S183 S2))) else f_L_law_189 fu K66 xs Ln x5 x6 S S2))
def f_L_law_146 (fu : Nat) (K66 : Int32 → Int32 → Mem → Mem → Option (Int32 × Mem × Mem)) (xs : Nat → Int32) (Ln : Nat) (x5 : Int32) (x6 : Int32) (S : Mem) (S2 : Mem) : Option (Int32 × Mem × Mem) :=
  gd (!((5 : Int32) == 0)) ((if (x5 - x5 / 5 * 5) = 3 then b3 (f_L_areAlike fu S S2) (fun r156 S156 T156 => (if r156 = 0 then f_L_law_200 fu K66 xs Ln x5 x6 S156 T156 else f_L_law_162 fu K66 xs Ln x5 x6 S156 T156)) else f_L_law_162 fu K66 xs Ln x5 x6 S S2))
def f_L_law_118 (fu : Nat) (K66 : Int32 → Int32 → Mem → Mem → Option (Int32 × Mem × Mem)) (xs : Nat → Int32) (Ln : Nat) (x5 : Int32) (t0 : Int32) (S : Mem) (S2 : Mem) : Option (Int32 × Mem × Mem) :=
  b2 (f_L_act fu t0 S) (fun r123 S123 => (if r123 = (-99999) then f_L_law_146 fu K66 xs Ln x5 t0 S123 S2 else b2 (f_L_act fu t0 S2) (fun r138 S138 => (if r138 = r123 then f_L_law_146 fu K66 xs Ln x5 t0 S123 S138 else f_L_law_200 fu K66 xs Ln x5 t0 S123 S138))))
def f_L_law_66 (fu : Nat) (xs : Nat → Int32) (Ln : Nat) : Nat → Int32 → Int32 → Mem → Mem → Option (Int32 × Mem × Mem)
  | 0, _, _, _, _ => none
  | n + 1, x4, x5, S, S2 => (if (64 : Int32) ≤ x5 then f_L_law_265 fu xs Ln x4 S S2 else (if x4 = 0 then f_L_law_265 fu xs Ln x4 S S2 else (if (16 : Int32) ≤ x5 then b1 (f_L_cell xs Ln x5) (fun r115 => f_L_law_118 fu (f_L_law_66 fu xs Ln n) xs Ln x5 r115 S S2) else b1 (f_L_cell xs Ln x5) (fun r88 => gd (!((32 : Int32) == 0)) (b1 (f_L_cell xs Ln x5) (fun r100 => b1 (f_L_low fu r100 18 S) (fun r105 => f_L_law_118 fu (f_L_law_66 fu xs Ln n) xs Ln x5 (((r88 / 32) * 32) + r105) S S2)))))))
def f_L_law_61 (fu : Nat) (xs : Nat → Int32) (Ln : Nat) (t0 : Int32) (S : Mem) (S2 : Mem) : Option (Int32 × Mem × Mem) :=
  f_L_law_66 fu xs Ln 65 t0 1 S S2
def f_L_law_60 (fu : Nat) (xs : Nat → Int32) (Ln : Nat) (S : Mem) (S2 : Mem) : Option (Int32 × Mem × Mem) :=
  f_L_law_61 fu xs Ln 0 S S2
def f_L_law (fu : Nat) (xs : Nat → Int32) (Ln : Nat) (S : Mem) (S2 : Mem) : Option (Int32 × Mem × Mem) :=
  b1 (f_L_cell xs Ln 0) (fun r19 => b1 (f_L_low fu r19 3 S) (fun r23 => b2 (f_L_does fu 8 (2 + r23) 60 0 0 S) (fun r36 S36 => (if r36 = 0 then b2 (f_L_does fu 8 (2 + r23) 60 0 0 S2) (fun r50 S50 => (if r50 = 0 then f_L_law_61 fu xs Ln 1 S36 S50 else f_L_law_60 fu xs Ln S36 S50)) else f_L_law_60 fu xs Ln S36 S2))))
