def fx_X1_at_30 (fu : Nat) (x1 : Int32) (S : Mem)  : Option (Nat ⊕ Nat) :=
  some (.inl 3)
def fx_X1_at (fu : Nat) (x1 : Int32) (S : Mem) : Option (Nat ⊕ Nat) :=
  (if x1 < 0 then fx_X1_at_30 fu x1 S else (if (S.1 1 0 1) ≤ x1 then fx_X1_at_30 fu x1 S else (if (nI 5) ≤ x1 then fx_X1_at_30 fu x1 S else gd (inb x1 5) (gd (inb x1 5) (some (.inr ((x1 : Int32).toNatClampNeg)))))))
def fx_X1_linkFrom (fu : Nat) (x1 : Int32) (S : Mem) : Option (Nat ⊕ Nat) :=
  bx (fx_X1_at fu x1 S) (fun e => .inl e) (fun r2 => b1 (f_X1_isLast fu x1 S) (fun r8 => (if r8 = 0 then some (.inr r2) else some (.inl 3))))
def fx_X1_vehiclesOnLinkFrom (fu : Nat) (x1 : Int32) (S : Mem) : Option (Nat ⊕ Int32) :=
  bx (fx_X1_linkFrom fu x1 S) (fun e => .inl e) (fun r2 => bx (fx_X1_at fu (x1 + 1) S) (fun e => .inl e) (fun r12 => some (.inr ((S.1 4 r2 3) + (S.1 3 r12 11)))))
def fx_X7_checkPlans (fu : Nat) (S : Mem) : Option (Nat ⊕ Unit) :=
  b1 (f_X1_isPlanned fu S) (fun r4 => (if r4 = 0 then some (.inl 2) else some (.inr ())))
def fx_X7_band (fu : Nat) (x1 : Int32) (S : Mem) : Option ((Nat ⊕ Int32) × Mem) :=
  bx (fx_X7_checkPlans fu S) (fun e => (.inl e, S)) (fun _ => b2 (f_X0_width fu x1 S) (fun r9 S9 => some (.inr r9, S9)))
def fx_X7_begin_20 (fu : Nat) (x1 : Int32) (x2 : Int32) (S : Mem) : Option ((Nat ⊕ Unit) × Mem) :=
  some (.inl 1, S)
def fx_X7_begin (fu : Nat) (x1 : Int32) (x2 : Int32) (S : Mem) : Option ((Nat ⊕ Unit) × Mem) :=
  b1 (f_X7_isOutside fu x1 2 5 S) (fun r3 => (if r3 = 0 then b1 (f_X7_isOutside fu x2 30 90 S) (fun r14 => (if r14 = 0 then b2 (f_X1_reset fu x1 x2 S) (fun _ S36 => b2 (f_X6_reset fu S36) (fun _ S43 => some (.inr (), S43))) else fx_X7_begin_20 fu x1 x2 S)) else fx_X7_begin_20 fu x1 x2 S))
def fx_X7_checkMovement_9 (fu : Nat) (x0 : Int32) (S : Mem)  : Option (Nat ⊕ Unit) :=
  some (.inl 3)
def fx_X7_checkMovement (fu : Nat) (x0 : Int32) (S : Mem) : Option (Nat ⊕ Unit) :=
  (if x0 < 0 then fx_X7_checkMovement_9 fu x0 S else (if x0 < 4 then some (.inr ()) else fx_X7_checkMovement_9 fu x0 S))
def fx_X7_callBus (fu : Nat) (x1 : Int32) (x2 : Int32) (S : Mem) : Option ((Nat ⊕ Int32) × Mem) :=
  bx (fx_X1_at fu x1 S) (fun e => (.inl e, S)) (fun r5 => bx (fx_X7_checkMovement fu x2 S) (fun e => (.inl e, S)) (fun _ => bx (fx_X7_checkPlans fu S) (fun e => (.inl e, S)) (fun _ => b1 (f_X3_lowestPhaseWith fu r5 x2 S) (fun r19 => (if r19 = (-1) then some (.inl 2, S) else b1 (f_X3_hasBusIn fu r5 (S.1 6 0 1) S) (fun r44 => (if r44 = 0 then b2 (f_X3_takeBus fu r5 ((wI S 6 0 5 1).1 6 0 1) x2 (wI S 6 0 5 1)) (fun r77 S77 => some (.inr r77, S77)) else some (.inl 2, S))))))))
def fx_X7_checkPhase_12 (fu : Nat) (i0 : Nat) (x1 : Int32) (S : Mem)  : Option (Nat ⊕ Unit) :=
  some (.inl 3)
def fx_X7_checkPhase (fu : Nat) (i0 : Nat) (x1 : Int32) (S : Mem) : Option (Nat ⊕ Unit) :=
  (if x1 < 0 then fx_X7_checkPhase_12 fu i0 x1 S else (if x1 < (S.1 3 i0 7) then some (.inr ()) else fx_X7_checkPhase_12 fu i0 x1 S))
def fx_X7_checkPlan (fu : Nat) (i0 : Nat) (S : Mem) : Option (Nat ⊕ Unit) :=
  (if (S.1 3 i0 10) = 0 then some (.inl 2) else some (.inr ()))
def fx_X7_checkSettingUp (fu : Nat) (S : Mem) : Option (Nat ⊕ Unit) :=
  (if (S.1 6 0 5) = 0 then some (.inr ()) else some (.inl 2))
def fx_X7_green (fu : Nat) (x1 : Int32) (x2 : Int32) (S : Mem) : Option (Nat ⊕ Int32) :=
  bx (fx_X1_at fu x1 S) (fun e => .inl e) (fun r5 => bx (fx_X7_checkPhase fu r5 x2 S) (fun e => .inl e) (fun _ => bx (fx_X7_checkPlan fu r5 S) (fun e => .inl e) (fun _ => b1 (f_X7_read fu 14 4 r5 x2 S) (fun r23 => some (.inr r23)))))
def fx_X7_improve (fu : Nat) (S : Mem) : Option ((Nat ⊕ Int32) × Mem) :=
  bx (fx_X7_checkPlans fu S) (fun e => (.inl e, S)) (fun _ => bx (fx_X7_checkSettingUp fu S) (fun e => (.inl e, S)) (fun _ => b2 (f_X0_improveOffsets fu S) (fun r12 S12 => some (.inr r12, S12))))
def fx_X7_phaseNow (fu : Nat) (x1 : Int32) (S : Mem) : Option (Nat ⊕ Int32) :=
  bx (fx_X1_at fu x1 S) (fun e => .inl e) (fun r5 => bx (fx_X7_checkPlan fu r5 S) (fun e => .inl e) (fun _ => b1 (f_X3_phaseIn fu r5 (S.1 6 0 1) S) (fun r21 => some (.inr r21))))
def fx_X7_run (fu : Nat) (x1 : Int32) (S : Mem) : Option ((Nat ⊕ Int32) × Mem) :=
  b1 (f_X7_isOutside fu x1 1 600 S) (fun r5 => (if r5 = 0 then bx (fx_X7_checkPlans fu S) (fun e => (.inl e, S)) (fun _ => (if ((S.1 6 0 1) + x1) ≤ 7200 then b2 (f_X6_pass fu x1 S) (fun r55 S55 => some (.inr r55, S55)) else some (.inl 2, S))) else some (.inl 1, S)))
def fx_X7_setConflict_74 (fu : Nat) (x1 : Int32) (x2 : Int32) (x3 : Int32) (x4 : Int32) (x5 : Nat) (S : Mem) : Option ((Nat ⊕ Int32) × Mem) :=
  b1 (f_X3_clearanceOf fu x5 x2 x3 S) (fun r78 => b2 (f_X3_changeClearance fu x5 x2 x3 x4 S) (fun _ S89 => some (.inr r78, S89)))
def fx_X7_setConflict_34 (fu : Nat) (x1 : Int32) (x2 : Int32) (x3 : Int32) (x4 : Int32) (S : Mem) : Option ((Nat ⊕ Int32) × Mem) :=
  some (.inl 1, S)
def fx_X7_setConflict (fu : Nat) (x1 : Int32) (x2 : Int32) (x3 : Int32) (x4 : Int32) (S : Mem) : Option ((Nat ⊕ Int32) × Mem) :=
  bx (fx_X1_at fu x1 S) (fun e => (.inl e, S)) (fun r5 => bx (fx_X7_checkMovement fu x2 S) (fun e => (.inl e, S)) (fun _ => bx (fx_X7_checkMovement fu x3 S) (fun e => (.inl e, S)) (fun _ => (if x2 = x3 then fx_X7_setConflict_34 fu x1 x2 x3 x4 S else b1 (f_X7_isOutside fu x4 (-1) 9 S) (fun r28 => (if r28 = 0 then bx (fx_X7_checkSettingUp fu S) (fun e => (.inl e, S)) (fun _ => (if x4 = (-1) then fx_X7_setConflict_74 fu x1 x2 x3 x4 r5 S else b1 (f_X3_haveOnePhase fu r5 x2 x3 S) (fun r58 => (if r58 = 0 then fx_X7_setConflict_74 fu x1 x2 x3 x4 r5 S else some (.inl 2, S))))) else fx_X7_setConflict_34 fu x1 x2 x3 x4 S))))))
def fx_X7_setFlow (fu : Nat) (x1 : Int32) (x2 : Int32) (x3 : Int32) (S : Mem) : Option ((Nat ⊕ Int32) × Mem) :=
  bx (fx_X1_at fu x1 S) (fun e => (.inl e, S)) (fun r5 => bx (fx_X7_checkMovement fu x2 S) (fun e => (.inl e, S)) (fun _ => b1 (f_X7_isOutside fu x3 0 1800 S) (fun r19 => (if r19 = 0 then bx (fx_X7_checkSettingUp fu S) (fun e => (.inl e, S)) (fun _ => b1 (f_X3_flowOf fu r5 x2 S) (fun r42 => b2 (f_X3_changeFlow fu r5 x2 x3 S) (fun _ S51 => some (.inr r42, S51)))) else some (.inl 1, S)))))
def fx_X7_setLink_30 (fu : Nat) (x1 : Int32) (x2 : Int32) (x3 : Int32) (S : Mem) : Option ((Nat ⊕ Unit) × Mem) :=
  some (.inl 1, S)
def fx_X7_setLink (fu : Nat) (x1 : Int32) (x2 : Int32) (x3 : Int32) (S : Mem) : Option ((Nat ⊕ Unit) × Mem) :=
  bx (fx_X1_linkFrom fu x1 S) (fun e => (.inl e, S)) (fun r5 => b1 (f_X7_isOutside fu x2 1 60 S) (fun r14 => (if r14 = 0 then b1 (f_X7_isOutside fu x3 1 40 S) (fun r24 => (if r24 = 0 then bx (fx_X7_checkSettingUp fu S) (fun e => (.inl e, S)) (fun _ => some (.inr (), (wI (wI S 4 r5 1 x2) 4 r5 2 x3))) else fx_X7_setLink_30 fu x1 x2 x3 S)) else fx_X7_setLink_30 fu x1 x2 x3 S)))
def fx_X7_setOffset (fu : Nat) (x1 : Int32) (x2 : Int32) (S : Mem) : Option ((Nat ⊕ Int32) × Mem) :=
  bx (fx_X1_at fu x1 S) (fun e => (.inl e, S)) (fun r5 => b1 (f_X7_isOutside fu x2 0 ((S.1 1 0 2) - 1) S) (fun r20 => (if r20 = 0 then bx (fx_X7_checkSettingUp fu S) (fun e => (.inl e, S)) (fun _ => some (.inr (S.1 3 r5 9), (wI S 3 r5 9 x2))) else some (.inl 1, S))))
def fx_X7_setPhases_121 (fu : Nat) (x1 : Int32) (x2 : Int32) (x3 : Int32) (x4 : Int32) (x5 : Int32) (S : Mem) : Option ((Nat ⊕ Int32) × Mem) :=
  some (.inl 2, S)
def fx_X7_setPhases_69 (fu : Nat) (x1 : Int32) (x2 : Int32) (x3 : Int32) (x4 : Int32) (x5 : Int32) (S : Mem) : Option ((Nat ⊕ Int32) × Mem) :=
  some (.inl 1, S)
def fx_X7_setPhases_63 (fu : Nat) (x1 : Int32) (x2 : Int32) (x3 : Int32) (x4 : Int32) (x5 : Int32) (x6 : Nat) (t0 : Int32) (t1 : Int32) (t2 : Int32) (S : Mem) : Option ((Nat ⊕ Int32) × Mem) :=
  b1 (f_X7_isOutside fu t2 t1 t0 S) (fun r63 => (if r63 = 0 then bx (fx_X7_checkSettingUp fu S) (fun e => (.inl e, S)) (fun _ => b1 (f_X3_hasConflictIn fu x6 x2 S) (fun r86 => (if r86 = 0 then b1 (f_X3_hasConflictIn fu x6 x3 S) (fun r95 => (if r95 = 0 then b1 (f_X3_hasConflictIn fu x6 x4 S) (fun r105 => (if r105 = 0 then b1 (f_X3_hasConflictIn fu x6 x5 S) (fun r115 => (if r115 = 0 then b2 (f_X3_changePhases fu x6 x2 x3 x4 x5 S) (fun _ S139 => some (.inr (S139.1 3 x6 7), S139)) else fx_X7_setPhases_121 fu x1 x2 x3 x4 x5 S)) else fx_X7_setPhases_121 fu x1 x2 x3 x4 x5 S)) else fx_X7_setPhases_121 fu x1 x2 x3 x4 x5 S)) else fx_X7_setPhases_121 fu x1 x2 x3 x4 x5 S))) else fx_X7_setPhases_69 fu x1 x2 x3 x4 x5 S))
def fx_X7_setPhases_43 (fu : Nat) (x1 : Int32) (x2 : Int32) (x3 : Int32) (x4 : Int32) (x5 : Int32) (x6 : Nat) (t0 : Int32) (t1 : Int32) (t2 : Int32) (S : Mem) : Option ((Nat ⊕ Int32) × Mem) :=
  b1 (f_X7_isOutside fu t2 t1 t0 S) (fun r43 => (if r43 = 0 then (if x4 = 0 then fx_X7_setPhases_63 fu x1 x2 x3 x4 x5 x6 0 0 x5 S else fx_X7_setPhases_63 fu x1 x2 x3 x4 x5 x6 15 0 x5 S) else fx_X7_setPhases_69 fu x1 x2 x3 x4 x5 S))
def fx_X7_setPhases (fu : Nat) (x1 : Int32) (x2 : Int32) (x3 : Int32) (x4 : Int32) (x5 : Int32) (S : Mem) : Option ((Nat ⊕ Int32) × Mem) :=
  bx (fx_X1_at fu x1 S) (fun e => (.inl e, S)) (fun r5 => b1 (f_X7_isOutside fu x2 1 15 S) (fun r14 => (if r14 = 0 then b1 (f_X7_isOutside fu x3 0 15 S) (fun r24 => (if r24 = 0 then (if x3 = 0 then fx_X7_setPhases_43 fu x1 x2 x3 x4 x5 r5 0 0 x4 S else fx_X7_setPhases_43 fu x1 x2 x3 x4 x5 r5 15 0 x4 S) else fx_X7_setPhases_69 fu x1 x2 x3 x4 x5 S)) else fx_X7_setPhases_69 fu x1 x2 x3 x4 x5 S)))
