/-! setPhases. -/
def s4 (a b c d : Nat) (p : Nat) : Nat := if p = 0 then a else if p = 1 then b else if p = 2 then c else d
theorem mny4 (a b c d : Nat) : mny (s4 a b c d) = if b = 0 then 1 else if c = 0 then 2 else if d = 0 then 3 else 4 := rfl
theorem eq0 {a : Nat} {α : Type} {x y : α} (ha : a < 16) : (if i32 (a : Int) = 0 then x else y) = if a = 0 then x else y := by
  by_cases e : a = 0
  · subst e; rw [if_pos rfl]; exact if_pos (show i32 ((0 : Nat) : Int) = 0 from rfl)
  · rw [if_neg (fun z => e (by have := (q_eq (a := (a : Int)) (b := 0) (by omega) (by omega) (by omega) (by omega)).mp z; omega)), if_neg e]
theorem eqz {t : Int} {α : Type} {x y : α} (ht : -2147483648 ≤ t ∧ t < 2147483648) : (if i32 t = 0 then x else y) = if t = 0 then x else y := by
  by_cases e : t = 0
  · subst e; rw [if_pos rfl]; exact if_pos (show i32 0 = 0 from rfl)
  · rw [if_neg (fun z : i32 t = 0 => e ((q_eq (a := t) (b := 0) (by omega) (by omega) (by omega) (by omega)).mp (z.trans q_0))), if_neg e]
theorem sim_setPhases (fu : Nat) (hfu : 100 ≤ fu) : Sim_setPhases fu RR := by
  intro S SR x y1 y2 y3 y4 h
  have h' := h
  obtain ⟨C, V, h1, h2, h3, h4, h5, h6⟩ := h'
  have hx := q_rng x
  have hy1 := q_rng y1
  have hy2 := q_rng y2
  have hy3 := q_rng y3
  have hy4 := q_rng y4
  rw [← q_self x, ← q_self y1, ← q_self y2, ← q_self y3, ← q_self y4]
  generalize x.toInt = a at *
  generalize y1.toInt = b1 at *
  generalize y2.toInt = b2' at *
  generalize y3.toInt = b3 at *
  generalize y4.toInt = b4 at *
  have hj : 2 ≤ cJ C ∧ cJ C ≤ 5 := ⟨h1.1, h1.2.1⟩
  have ein : ∀ (t lo hi : Int) (T : Mem), -2147483648 ≤ t ∧ t < 2147483648 → -100 ≤ lo → lo ≤ 100 → -100 ≤ hi → hi ≤ 100 → f_X8_in fu (i32 t) (i32 lo) (i32 hi) T = some (bo (decide (lo ≤ t ∧ t ≤ hi))) := fun t lo hi T ht h1 h2 h3 h4 => s_in (by omega) (by omega) (by omega) (by omega) (by omega) (by omega)
  have eout : ∀ (t lo hi : Int) (T : Mem), -2147483648 ≤ t ∧ t < 2147483648 → -100 ≤ lo → lo ≤ 100 → -100 ≤ hi → hi ≤ 100 → f_X7_isOutside fu (i32 t) (i32 lo) (i32 hi) T = some (bo (!decide (lo ≤ t ∧ t ≤ hi))) := fun t lo hi T ht h1 h2 h3 h4 => s_isOutside (by omega) (by omega) (by omega) (by omega) (by omega) (by omega)
  have i15 : (15 : Int32) = i32 15 := rfl
  -- the arguments
  by_cases hare : (1 ≤ b1 ∧ b1 ≤ 15) ∧ (0 ≤ b2' ∧ b2' ≤ 15) ∧ (0 ≤ b3 ∧ b3 ≤ (if b2' = 0 then 0 else 15)) ∧ (0 ≤ b4 ∧ b4 ≤ (if b3 = 0 then 0 else 15))
  · obtain ⟨g1, g2, g3, g4⟩ := hare
    have g3' : 0 ≤ b3 ∧ b3 ≤ 15 := by split at g3 <;> omega
    have g4' : 0 ≤ b4 ∧ b4 ≤ 15 := by split at g4 <;> omega
    obtain ⟨p1, rfl⟩ : ∃ p : Nat, b1 = (p : Int) := ⟨b1.toNat, by omega⟩
    obtain ⟨p2, rfl⟩ : ∃ p : Nat, b2' = (p : Int) := ⟨b2'.toNat, by omega⟩
    obtain ⟨p3, rfl⟩ : ∃ p : Nat, b3 = (p : Int) := ⟨b3.toNat, by omega⟩
    obtain ⟨p4, rfl⟩ : ∃ p : Nat, b4 = (p : Int) := ⟨b4.toNat, by omega⟩
    have eM : f_X8_setPhases fu (i32 a) (i32 (p1 : Int)) (i32 (p2 : Int)) (i32 (p3 : Int)) (i32 (p4 : Int)) SR = f_X8_setPhases_64 fu (i32 a) (i32 (p1 : Int)) (i32 (p2 : Int)) (i32 (p3 : Int)) (i32 (p4 : Int)) 1 SR := by
      unfold f_X8_setPhases f_X8_setPhases_33 f_X8_setPhases_53
      have n1 : f_X8_in fu (i32 (p1 : Int)) 1 15 SR = some (bo true) := (ein _ 1 15 SR hy1 (by omega) (by omega) (by omega) (by omega)).trans (by rw [decide_eq_true g1])
      have n2 : f_X8_in fu (i32 (p2 : Int)) 0 15 SR = some (bo true) := (ein _ 0 15 SR hy2 (by omega) (by omega) (by omega) (by omega)).trans (by rw [decide_eq_true g2])
      have n30 : (p2 : Int) = 0 → f_X8_in fu (i32 (p3 : Int)) 0 0 SR = some (bo true) := fun z => (ein _ 0 0 SR hy3 (by omega) (by omega) (by omega) (by omega)).trans (by rw [if_pos z] at g3; rw [decide_eq_true (by omega)])
      have n31 : f_X8_in fu (i32 (p3 : Int)) 0 15 SR = some (bo true) := (ein _ 0 15 SR hy3 (by omega) (by omega) (by omega) (by omega)).trans (by rw [decide_eq_true g3'])
      have n40 : (p3 : Int) = 0 → f_X8_in fu (i32 (p4 : Int)) 0 0 SR = some (bo true) := fun z => (ein _ 0 0 SR hy4 (by omega) (by omega) (by omega) (by omega)).trans (by rw [if_pos z] at g4; rw [decide_eq_true (by omega)])
      have n41 : f_X8_in fu (i32 (p4 : Int)) 0 15 SR = some (bo true) := (ein _ 0 15 SR hy4 (by omega) (by omega) (by omega) (by omega)).trans (by rw [decide_eq_true g4'])
      have last : (if i32 (p3 : Int) = 0 then b1 (f_X8_in fu (i32 (p4 : Int)) 0 0 SR) (fun r53 => (if r53 = 0 then f_X8_setPhases_63 fu (i32 a) (i32 (p1 : Int)) (i32 (p2 : Int)) (i32 (p3 : Int)) (i32 (p4 : Int)) SR else f_X8_setPhases_64 fu (i32 a) (i32 (p1 : Int)) (i32 (p2 : Int)) (i32 (p3 : Int)) (i32 (p4 : Int)) 1 SR)) else b1 (f_X8_in fu (i32 (p4 : Int)) 0 15 SR) (fun r53 => (if r53 = 0 then f_X8_setPhases_63 fu (i32 a) (i32 (p1 : Int)) (i32 (p2 : Int)) (i32 (p3 : Int)) (i32 (p4 : Int)) SR else f_X8_setPhases_64 fu (i32 a) (i32 (p1 : Int)) (i32 (p2 : Int)) (i32 (p3 : Int)) (i32 (p4 : Int)) 1 SR))) = f_X8_setPhases_64 fu (i32 a) (i32 (p1 : Int)) (i32 (p2 : Int)) (i32 (p3 : Int)) (i32 (p4 : Int)) 1 SR := by
        rw [eq0 (by omega)]
        by_cases z : p3 = 0
        · rw [if_pos z, n40 (by omega), b1s, boT rfl]
        · rw [if_neg z, n41, b1s, boT rfl]
      rw [n1, b1s, boT rfl, n2, b1s, boT rfl, eq0 (by omega)]
      by_cases z : p2 = 0
      · rw [if_pos z, n30 (by omega), b1s, boT rfl]; exact last
      · rw [if_neg z, n31, b1s, boT rfl]; exact last
    rw [eM]
    unfold fx_X7_setPhases
    rw [s_at hj.2 h2.1 hx]
    unfold f_X8_setPhases_64
    rw [m_isJ hj h3.1 hx, b1s]
    by_cases e : 0 ≤ a ∧ a < cJ C
    · obtain ⟨k, rfl⟩ : ∃ k : Nat, a = (k : Int) := ⟨a.toNat, by omega⟩
      have hk : k < cJ C := by omega
      obtain ⟨hoJ, hoo⟩ := h1.2.2.2.2.1 k hk
      have hJ := (h2.2.2.1 k hk).1
      have hM := (h3.2.1 k hk).1
      have eC : (b1 (f_X7_isOutside fu (i32 (p1 : Int)) 1 15 S) (fun r14 => (if r14 = 0 then b1 (f_X7_isOutside fu (i32 (p2 : Int)) 0 15 S) (fun r24 => (if r24 = 0 then (if i32 (p2 : Int) = 0 then fx_X7_setPhases_43 fu (i32 (k : Int)) (i32 (p1 : Int)) (i32 (p2 : Int)) (i32 (p3 : Int)) (i32 (p4 : Int)) k 0 0 (i32 (p3 : Int)) S else fx_X7_setPhases_43 fu (i32 (k : Int)) (i32 (p1 : Int)) (i32 (p2 : Int)) (i32 (p3 : Int)) (i32 (p4 : Int)) k 15 0 (i32 (p3 : Int)) S) else fx_X7_setPhases_69 fu (i32 (k : Int)) (i32 (p1 : Int)) (i32 (p2 : Int)) (i32 (p3 : Int)) (i32 (p4 : Int)) S)) else fx_X7_setPhases_69 fu (i32 (k : Int)) (i32 (p1 : Int)) (i32 (p2 : Int)) (i32 (p3 : Int)) (i32 (p4 : Int)) S))) = bx (fx_X7_checkSettingUp fu S) (fun e => ((.inl e : Nat ⊕ Int32), S)) (fun _ => b1 (f_X3_hasConflictIn fu k (i32 (p1 : Int)) S) (fun r86 => (if r86 = 0 then b1 (f_X3_hasConflictIn fu k (i32 (p2 : Int)) S) (fun r95 => (if r95 = 0 then b1 (f_X3_hasConflictIn fu k (i32 (p3 : Int)) S) (fun r105 => (if r105 = 0 then b1 (f_X3_hasConflictIn fu k (i32 (p4 : Int)) S) (fun r115 => (if r115 = 0 then b2 (f_X3_changePhases fu k (i32 (p1 : Int)) (i32 (p2 : Int)) (i32 (p3 : Int)) (i32 (p4 : Int)) S) (fun _ S139 => some ((.inr (S139.1 3 k 7) : Nat ⊕ Int32), S139)) else some (.inl 2, S))) else some (.inl 2, S))) else some (.inl 2, S))) else some (.inl 2, S)))) := by
        have n1 : f_X7_isOutside fu (i32 (p1 : Int)) 1 15 S = some (bo false) := (eout _ 1 15 S hy1 (by omega) (by omega) (by omega) (by omega)).trans (by rw [decide_eq_true g1]; rfl)
        have n2 : f_X7_isOutside fu (i32 (p2 : Int)) 0 15 S = some (bo false) := (eout _ 0 15 S hy2 (by omega) (by omega) (by omega) (by omega)).trans (by rw [decide_eq_true g2]; rfl)
        have n30 : (p2 : Int) = 0 → f_X7_isOutside fu (i32 (p3 : Int)) 0 0 S = some (bo false) := fun z => (eout _ 0 0 S hy3 (by omega) (by omega) (by omega) (by omega)).trans (by rw [if_pos z] at g3; rw [decide_eq_true (by omega)]; rfl)
        have n31 : f_X7_isOutside fu (i32 (p3 : Int)) 0 15 S = some (bo false) := (eout _ 0 15 S hy3 (by omega) (by omega) (by omega) (by omega)).trans (by rw [decide_eq_true g3']; rfl)
        have n40 : (p3 : Int) = 0 → f_X7_isOutside fu (i32 (p4 : Int)) 0 0 S = some (bo false) := fun z => (eout _ 0 0 S hy4 (by omega) (by omega) (by omega) (by omega)).trans (by rw [if_pos z] at g4; rw [decide_eq_true (by omega)]; rfl)
        have n41 : f_X7_isOutside fu (i32 (p4 : Int)) 0 15 S = some (bo false) := (eout _ 0 15 S hy4 (by omega) (by omega) (by omega) (by omega)).trans (by rw [decide_eq_true g4']; rfl)
        rw [n1, b1s, boF rfl, n2, b1s, boF rfl, eq0 (by omega)]
        unfold fx_X7_setPhases_43 fx_X7_setPhases_63 fx_X7_setPhases_121
        by_cases z : p2 = 0
        · rw [if_pos z, n30 (by omega), b1s, boF rfl, eq0 (by omega)]
          by_cases z3 : p3 = 0
          · rw [if_pos z3, n40 (by omega), b1s, boF rfl]
          · rw [if_neg z3, n41, b1s, boF rfl]
        · rw [if_neg z, n31, b1s, boF rfl, eq0 (by omega)]
          by_cases z3 : p3 = 0
          · rw [if_pos z3, n40 (by omega), b1s, boF rfl]
          · rw [if_neg z3, n41, b1s, boF rfl]
      rw [if_pos e, bxr, show ((k : Int)).toNat = k by omega, eC, boT (decide_eq_true e), if_neg (by decide +kernel), m_bad (by omega) hM hoJ (by omega), b1s, m_bad (by omega) hM hoJ (by omega), m_bad (by omega) hM hoJ (by omega), m_bad (by omega) hM hoJ (by omega), b1s, b1s, b1s, s_settingUp h5, s_conf (by omega) hJ hoJ (by omega), s_conf (by omega) hJ hoJ (by omega), s_conf (by omega) hJ hoJ (by omega), s_conf (by omega) hJ hoJ (by omega), b1s, b1s, b1s, b1s]
      have e117 : ∃ SR2, f_X8_setPhases_117 fu (i32 (k : Int)) (i32 (p1 : Int)) (i32 (p2 : Int)) (i32 (p3 : Int)) (i32 (p4 : Int)) 1 SR = some (0, SR2) ∧ SR2.1 8 0 0 = 3 ∧ RR S SR2 := by
        unfold f_X8_setPhases_117 f_X8_setPhases_122 f_X8_setPhases_158 f_X8_setPhases_163
        rw [m_isJ hj h3.1 (by omega), b1s, boT (decide_eq_true e), if_neg (by decide +kernel), if_neg (by decide +kernel), m_holdsN (by decide +kernel), b2s, if_pos rfl]
        exact ⟨_, rfl, w_eq, h.mf moF.th⟩
      obtain ⟨SB, eB1, eB2, eB3⟩ := e117
      cases hb : vB V with
      | true =>
        have e121 : f_X8_setPhases_121 fu (i32 (k : Int)) (i32 (p1 : Int)) (i32 (p2 : Int)) (i32 (p3 : Int)) (i32 (p4 : Int)) 1 SR = some (0, wI SR 8 0 0 3) := by
          unfold f_X8_setPhases_121 f_X8_setPhases_122 f_X8_setPhases_158 f_X8_setPhases_163
          rw [m_isJ hj h3.1 (by omega), b1s, boT (decide_eq_true e), if_neg (by decide +kernel), if_pos rfl, h6.2.2.2.2.1, hb, boT rfl, m_holdsN (by decide +kernel), b2s, if_pos rfl]
        rw [if_neg (by simp), bxl, e121, eB1]
        cases bad (cC C k) p1 <;> cases bad (cC C k) p2 <;> cases bad (cC C k) p3 <;> cases bad (cC C k) p4 <;> first
          | exact ⟨_, _, 0, wI SR 8 0 0 3, 3, rfl, rfl, rfl, w_eq, (fun v hv => by cases hv), h.mf moF.th⟩
          | exact ⟨_, _, 0, SB, 3, rfl, rfl, rfl, eB2, (fun v hv => by cases hv), eB3⟩
      | false =>
        rw [if_pos rfl, bxr, eB1]
        by_cases hany : bad (cC C k) p1 = false ∧ bad (cC C k) p2 = false ∧ bad (cC C k) p3 = false ∧ bad (cC C k) p4 = false
        · obtain ⟨z1, z2, z3, z4⟩ := hany
          rw [z1, z2, z3, z4, boF rfl, boF rfl, boF rfl, boF rfl, boF rfl, boF rfl, boF rfl, boF rfl]
          have hmn4 := mny4 p1 p2 p3 p4
          have ho' : okJ (s4 p1 p2 p3 p4) (cC C k) (cF C k) (cCy C) := ⟨fun p hp => by
            unfold s4; split
            · omega
            · split
              · omega
              · split <;> omega, hoJ.2⟩
          have hJ' : ∀ T : Mem, (∀ a b i, (b ≠ k ∨ (a ≠ 12 ∧ (a ≠ 3 ∨ i ≠ 7))) → T.1 a b i = S.1 a b i) → T.1 3 k 7 = i32 (mny (s4 p1 p2 p3 p4) : Int) → T.1 12 k 0 = i32 (p1 : Int) → T.1 12 k 1 = i32 (p2 : Int) → T.1 12 k 2 = i32 (p3 : Int) → T.1 12 k 3 = i32 (p4 : Int) → SJ T k (s4 p1 p2 p3 p4) (cC C k) (cF C k) (cCy C) := by
            intro T hT t7 t0 t1 t2 t3
            refine ⟨t7, (hT _ _ _ (by omega)).trans hJ.2.1, fun p hp => ?_, fun q hq => (hT _ _ _ (by omega)).trans (hJ.2.2.2.1 q hq), fun m hm => (hT _ _ _ (by omega)).trans (hJ.2.2.2.2 m hm)⟩
            match p, hp with
            | 0, _ => exact t0
            | 1, _ => exact t1
            | 2, _ => exact t2
            | 3, _ => exact t3
            | p + 4, hp => exact absurd hp (by omega)
          have hW : f_X3_writeSets fu k (i32 (p1 : Int)) (i32 (p2 : Int)) (i32 (p3 : Int)) (i32 (p4 : Int)) S = some ((), wI (wI (wI (wI (wI S 12 k 0 (i32 (p1 : Int))) 12 k 1 (i32 (p2 : Int))) 12 k 2 (i32 (p3 : Int))) 12 k 3 (i32 (p4 : Int))) 3 k 7 (i32 (mny (s4 p1 p2 p3 p4) : Int))) := by
            unfold f_X3_writeSets f_X3_writeSets_64
            have w0 : ∀ (T : Mem) (v : Int32), f_X7_write fu 12 4 k 0 v T = some ((), wI T 12 k 0 v) := fun T v => s_write (a := 0) (by omega) (by omega) (by omega)
            have w1 : ∀ (T : Mem) (v : Int32), f_X7_write fu 12 4 k 1 v T = some ((), wI T 12 k 1 v) := fun T v => s_write (a := 1) (by omega) (by omega) (by omega)
            have w2 : ∀ (T : Mem) (v : Int32), f_X7_write fu 12 4 k 2 v T = some ((), wI T 12 k 2 v) := fun T v => s_write (a := 2) (by omega) (by omega) (by omega)
            have w3 : ∀ (T : Mem) (v : Int32), f_X7_write fu 12 4 k 3 v T = some ((), wI T 12 k 3 v) := fun T v => s_write (a := 3) (by omega) (by omega) (by omega)
            rw [w0, b2s, w1, b2s, w2, b2s, w3, b2s, eq0 (by omega), eq0 (by omega), eq0 (by omega), hmn4]
            split
            · rfl
            · split
              · rfl
              · split <;> rfl
          have hSJ := hJ' (wI (wI (wI (wI (wI S 12 k 0 (i32 (p1 : Int))) 12 k 1 (i32 (p2 : Int))) 12 k 2 (i32 (p3 : Int))) 12 k 3 (i32 (p4 : Int))) 3 k 7 (i32 (mny (s4 p1 p2 p3 p4) : Int))) (fun a b i hq => by
            rw [w_ne (by omega), w_ne (by omega), w_ne (by omega), w_ne (by omega), w_ne (by omega)]) w_eq (by rw [w_ne (by omega), w_ne (by omega), w_ne (by omega), w_ne (by omega), w_eq]) (by rw [w_ne (by omega), w_ne (by omega), w_ne (by omega), w_eq]) (by rw [w_ne (by omega), w_ne (by omega), w_eq]) (by rw [w_ne (by omega), w_eq])
          obtain ⟨S', hmp, hfp, hsj, hpl⟩ := s_makePlan (fu := fu) hfu hSJ ho'
          have ecl : f_X3_changePhases fu k (i32 (p1 : Int)) (i32 (p2 : Int)) (i32 (p3 : Int)) (i32 (p4 : Int)) S = some ((), S') := by
            unfold f_X3_changePhases
            rw [hW, b2s, hmp, b2s]
          rw [ecl, b2s]
          unfold f_X8_setPhases_121 f_X8_setPhases_122 f_X8_setPhases_163
          have hfj : frJ k S S' := (frJ.w (by omega)).trans ((frJ.w (by omega)).trans ((frJ.w (by omega)).trans ((frJ.w (by omega)).trans ((frJ.w (by omega)).trans (frJ.pl hfp)))))
          rw [m_isJ hj h3.1 (by omega), b1s, boT (decide_eq_true e), if_neg (by decide +kernel), if_pos rfl, h6.2.2.2.2.1, hb, boF rfl, m_holds0, b2s, if_neg (by decide +kernel), q_4, q_mul, gdt (q_inb (by omega) (by omega) (by omega)), q_1, q_add, gdt (q_inb (by omega) (by omega) (by omega)), q_2, q_add, gdt (q_inb (by omega) (by omega) (by omega)), q_3, q_add, gdt (q_inb (by omega) (by omega) (by omega)), q_nat (by omega) (by omega), q_nat (by omega) (by omega), q_nat (by omega) (by omega), q_nat (by omega) (by omega), eq0 (by omega), eq0 (by omega), eq0 (by omega)]
          rw [show (4 * (k : Int)).toNat = 4 * k by omega, show (4 * (k : Int) + 1).toNat = 4 * k + 1 by omega, show (4 * (k : Int) + 2).toNat = 4 * k + 2 by omega, show (4 * (k : Int) + 3).toNat = 4 * k + 3 by omega]
          generalize hT : wI (wI (wI (wI (wI SR 8 0 0 0) 21 0 (4 * k) (i32 (p1 : Int))) 21 0 (4 * k + 1) (i32 (p2 : Int))) 21 0 (4 * k + 2) (i32 (p3 : Int))) 21 0 (4 * k + 3) (i32 (p4 : Int)) = T
          have e247 : ∀ v : Int32, v = i32 (mny (s4 p1 p2 p3 p4) : Int) → f_X8_setPhases_247 fu (i32 (k : Int)) (i32 (p1 : Int)) (i32 (p2 : Int)) (i32 (p3 : Int)) (i32 (p4 : Int)) v (i32 (k : Int)) T = some (i32 (mny (s4 p1 p2 p3 p4) : Int), wI T 22 0 k (i32 (mny (s4 p1 p2 p3 p4) : Int))) := by
            intro v hv
            unfold f_X8_setPhases_247
            rw [gdt (q_inb (by omega) (by omega) (by omega)), gdt (q_inb (by omega) (by omega) (by omega)), q_nat (by omega) (by omega), show ((k : Int)).toNat = k by omega, w_eq, hv]
          have eall : (if p2 = 0 then f_X8_setPhases_247 fu (i32 (k : Int)) (i32 (p1 : Int)) (i32 (p2 : Int)) (i32 (p3 : Int)) (i32 (p4 : Int)) (i32 1) (i32 (k : Int)) T else if p3 = 0 then f_X8_setPhases_247 fu (i32 (k : Int)) (i32 (p1 : Int)) (i32 (p2 : Int)) (i32 (p3 : Int)) (i32 (p4 : Int)) (i32 2) (i32 (k : Int)) T else if p4 = 0 then f_X8_setPhases_247 fu (i32 (k : Int)) (i32 (p1 : Int)) (i32 (p2 : Int)) (i32 (p3 : Int)) (i32 (p4 : Int)) (i32 3) (i32 (k : Int)) T else f_X8_setPhases_247 fu (i32 (k : Int)) (i32 (p1 : Int)) (i32 (p2 : Int)) (i32 (p3 : Int)) (i32 (p4 : Int)) (i32 4) (i32 (k : Int)) T) = some (i32 (mny (s4 p1 p2 p3 p4) : Int), wI T 22 0 k (i32 (mny (s4 p1 p2 p3 p4) : Int))) := by
            by_cases c1 : p2 = 0
            · rw [if_pos c1]; exact e247 _ (by rw [hmn4, if_pos c1]; rfl)
            · rw [if_neg c1]
              by_cases c2 : p3 = 0
              · rw [if_pos c2]; exact e247 _ (by rw [hmn4, if_neg c1, if_pos c2]; rfl)
              · rw [if_neg c2]
                by_cases c3 : p4 = 0
                · rw [if_pos c3]; exact e247 _ (by rw [hmn4, if_neg c1, if_neg c2, if_pos c3]; rfl)
                · rw [if_neg c3]; exact e247 _ (by rw [hmn4, if_neg c1, if_neg c2, if_neg c3]; rfl)
          rw [eall]
          have hfn : frN k SR (wI T 22 0 k (i32 (mny (s4 p1 p2 p3 p4) : Int))) := by
            rw [← hT]
            exact (frN.w (by omega)).trans ((frN.w (k := k) (by omega)).trans ((frN.w (k := k) (by omega)).trans ((frN.w (k := k) (by omega)).trans ((frN.w (k := k) (by omega)).trans (frN.w (k := k) (by omega))))))
          have hTr : ∀ a i, (a ≠ 21 ∧ (a ≠ 8 ∨ i ≠ 0)) → T.1 a 0 i = SR.1 a 0 i := fun a i hq => by
            rw [← hT, w_ne (by omega), w_ne (by omega), w_ne (by omega), w_ne (by omega), w_ne (by omega)]
          refine ⟨_, _, _, _, 0, rfl, rfl, rfl, ?_, (fun v hv => ?_), RR_upd h1 h2 h3 h4 h5 h6 hb hk ho' hfj hsj hpl hfn ⟨hM.1, w_eq, ?_, fun p hp => ?_, fun q hq => ?_, fun m' hm' => ?_⟩⟩
          · rw [w_ne (by omega), ← hT, w_ne (by omega), w_ne (by omega), w_ne (by omega), w_ne (by omega), w_eq]
          · cases hv
            exact hsj.1
          · rw [w_ne (by omega), hTr _ _ (by omega)]; exact hM.2.2.1
          · have hmm := mny_le (s4 p1 p2 p3 p4)
            rw [w_ne (by omega), ← hT]
            match p, hp with
            | 0, _ => rw [w_ne (by omega), w_ne (by omega), w_ne (by omega)]; exact w_eq
            | 1, _ => rw [w_ne (by omega), w_ne (by omega), w_eq]; rfl
            | 2, _ => rw [w_ne (by omega), w_eq]; rfl
            | 3, _ => rw [w_eq]; rfl
            | p + 4, hp => exact absurd hp (by omega)
          · rw [w_ne (by omega), hTr _ _ (by omega)]; exact hM.2.2.2.2.1 q hq
          · rw [w_ne (by omega), hTr _ _ (by omega)]; exact hM.2.2.2.2.2 m' hm'
        · have goal3 : ∃ (z : Nat ⊕ Int32) (S2 : Mem) (y : Int32) (SR2 : Mem) (k_1 : Int32), some ((Sum.inl 2 : Nat ⊕ Int32), S) = some (z, S2) ∧ hc3 3 1 2 z = some k_1 ∧ some ((0 : Int32), SB) = some (y, SR2) ∧ SR2.1 8 0 0 = k_1 ∧ (∀ (v : Int32), z = Sum.inr v → v = y) ∧ RR S2 SR2 := ⟨_, _, 0, SB, 3, rfl, rfl, rfl, eB2, (fun v hv => by cases hv), eB3⟩
          cases z1 : bad (cC C k) p1 with
          | true => rw [boT rfl, boT rfl]; exact goal3
          | false =>
            rw [boF rfl, boF rfl]
            cases z2 : bad (cC C k) p2 with
            | true => rw [boT rfl, boT rfl]; exact goal3
            | false =>
              rw [boF rfl, boF rfl]
              cases z3 : bad (cC C k) p3 with
              | true => rw [boT rfl, boT rfl]; exact goal3
              | false =>
                rw [boF rfl, boF rfl]
                cases z4 : bad (cC C k) p4 with
                | true => rw [boT rfl, boT rfl]; exact goal3
                | false => exact absurd ⟨z1, z2, z3, z4⟩ hany
    · have e121 : f_X8_setPhases_121 fu (i32 a) (i32 (p1 : Int)) (i32 (p2 : Int)) (i32 (p3 : Int)) (i32 (p4 : Int)) 1 SR = some (0, wI SR 8 0 0 1) := by
        unfold f_X8_setPhases_121 f_X8_setPhases_122 f_X8_setPhases_163
        rw [m_isJ hj h3.1 hx, b1s, boF (decide_eq_false e), m_holdsN (by decide +kernel), b2s, if_pos rfl]
      rw [if_neg e, bxl, boF (decide_eq_false e), e121]
      exact ⟨_, _, _, _, 1, rfl, rfl, rfl, w_eq, (fun v hv => by cases hv), h.mf moF.th⟩
  · -- the arguments are out of range
    have eM : f_X8_setPhases fu (i32 a) (i32 b1) (i32 b2') (i32 b3) (i32 b4) SR = f_X8_setPhases_64 fu (i32 a) (i32 b1) (i32 b2') (i32 b3) (i32 b4) 0 SR := by
      unfold f_X8_setPhases f_X8_setPhases_33 f_X8_setPhases_53 f_X8_setPhases_63
      have n1 : f_X8_in fu (i32 b1) 1 15 SR = some (bo (decide (1 ≤ b1 ∧ b1 ≤ 15))) := ein _ 1 15 SR hy1 (by omega) (by omega) (by omega) (by omega)
      have n2 : f_X8_in fu (i32 b2') 0 15 SR = some (bo (decide (0 ≤ b2' ∧ b2' ≤ 15))) := ein _ 0 15 SR hy2 (by omega) (by omega) (by omega) (by omega)
      have n30 : f_X8_in fu (i32 b3) 0 0 SR = some (bo (decide (0 ≤ b3 ∧ b3 ≤ 0))) := ein _ 0 0 SR hy3 (by omega) (by omega) (by omega) (by omega)
      have n31 : f_X8_in fu (i32 b3) 0 15 SR = some (bo (decide (0 ≤ b3 ∧ b3 ≤ 15))) := ein _ 0 15 SR hy3 (by omega) (by omega) (by omega) (by omega)
      have n40 : f_X8_in fu (i32 b4) 0 0 SR = some (bo (decide (0 ≤ b4 ∧ b4 ≤ 0))) := ein _ 0 0 SR hy4 (by omega) (by omega) (by omega) (by omega)
      have n41 : f_X8_in fu (i32 b4) 0 15 SR = some (bo (decide (0 ≤ b4 ∧ b4 ≤ 15))) := ein _ 0 15 SR hy4 (by omega) (by omega) (by omega) (by omega)
      rw [n1, b1s]
      by_cases g1 : 1 ≤ b1 ∧ b1 ≤ 15
      · rw [boT (decide_eq_true g1), n2, b1s]
        by_cases g2 : 0 ≤ b2' ∧ b2' ≤ 15
        · rw [boT (decide_eq_true g2), n30, n31, eqz hy2, b1s, b1s, eqz hy3, n40, n41, b1s, b1s]
          by_cases z2 : b2' = 0
          · rw [if_pos z2]
            by_cases g3 : 0 ≤ b3 ∧ b3 ≤ 0
            · rw [boT (decide_eq_true g3), if_pos (show b3 = 0 by omega)]
              have : ¬ (0 ≤ b4 ∧ b4 ≤ 0) := fun g4 => hare ⟨g1, g2, by rw [if_pos z2]; exact g3, by rw [if_pos (show b3 = 0 by omega)]; exact g4⟩
              rw [boF (decide_eq_false this)]
            · rw [boF (decide_eq_false g3)]
          · rw [if_neg z2]
            by_cases g3 : 0 ≤ b3 ∧ b3 ≤ 15
            · rw [boT (decide_eq_true g3)]
              by_cases z3 : b3 = 0
              · have : ¬ (0 ≤ b4 ∧ b4 ≤ 0) := fun g4 => hare ⟨g1, g2, by rw [if_neg z2]; exact g3, by rw [if_pos z3]; exact g4⟩
                rw [if_pos z3, boF (decide_eq_false this)]
              · have : ¬ (0 ≤ b4 ∧ b4 ≤ 15) := fun g4 => hare ⟨g1, g2, by rw [if_neg z2]; exact g3, by rw [if_neg z3]; exact g4⟩
                rw [if_neg z3, boF (decide_eq_false this)]
            · rw [boF (decide_eq_false g3)]
        · rw [boF (decide_eq_false g2)]
      · rw [boF (decide_eq_false g1)]
    rw [eM]
    unfold fx_X7_setPhases f_X8_setPhases_64 f_X8_setPhases_121 f_X8_setPhases_122 f_X8_setPhases_163
    rw [s_at hj.2 h2.1 hx, m_isJ hj h3.1 hx, b1s, b1s]
    by_cases e : 0 ≤ a ∧ a < cJ C
    · have n1 : f_X7_isOutside fu (i32 b1) 1 15 S = some (bo (!decide (1 ≤ b1 ∧ b1 ≤ 15))) := eout _ 1 15 S hy1 (by omega) (by omega) (by omega) (by omega)
      have n2 : f_X7_isOutside fu (i32 b2') 0 15 S = some (bo (!decide (0 ≤ b2' ∧ b2' ≤ 15))) := eout _ 0 15 S hy2 (by omega) (by omega) (by omega) (by omega)
      have n30 : f_X7_isOutside fu (i32 b3) 0 0 S = some (bo (!decide (0 ≤ b3 ∧ b3 ≤ 0))) := eout _ 0 0 S hy3 (by omega) (by omega) (by omega) (by omega)
      have n31 : f_X7_isOutside fu (i32 b3) 0 15 S = some (bo (!decide (0 ≤ b3 ∧ b3 ≤ 15))) := eout _ 0 15 S hy3 (by omega) (by omega) (by omega) (by omega)
      have n40 : f_X7_isOutside fu (i32 b4) 0 0 S = some (bo (!decide (0 ≤ b4 ∧ b4 ≤ 0))) := eout _ 0 0 S hy4 (by omega) (by omega) (by omega) (by omega)
      have n41 : f_X7_isOutside fu (i32 b4) 0 15 S = some (bo (!decide (0 ≤ b4 ∧ b4 ≤ 15))) := eout _ 0 15 S hy4 (by omega) (by omega) (by omega) (by omega)
      rw [if_pos e, bxr, boT (decide_eq_true e), if_pos rfl, boT (decide_eq_true e), if_pos rfl, m_holdsN (by decide +kernel), b2s, if_pos rfl, n1, b1s]
      have fin : ∃ (z : Nat ⊕ Int32) (S2 : Mem) (y : Int32) (SR2 : Mem) (k_1 : Int32), some ((Sum.inl 1 : Nat ⊕ Int32), S) = some (z, S2) ∧ hc3 3 1 2 z = some k_1 ∧ some ((0 : Int32), wI SR 8 0 0 2) = some (y, SR2) ∧ SR2.1 8 0 0 = k_1 ∧ (∀ (v : Int32), z = Sum.inr v → v = y) ∧ RR S2 SR2 := ⟨_, _, 0, _, 2, rfl, rfl, rfl, w_eq, (fun v hv => by cases hv), h.mf moF.th⟩
      unfold fx_X7_setPhases_43 fx_X7_setPhases_63 fx_X7_setPhases_69
      by_cases g1 : 1 ≤ b1 ∧ b1 ≤ 15
      · rw [decide_eq_true g1, Bool.not_true, boF rfl, n2, b1s]
        by_cases g2 : 0 ≤ b2' ∧ b2' ≤ 15
        · rw [decide_eq_true g2, Bool.not_true, boF rfl, n30, n31, eqz hy2, b1s, b1s, eqz hy3, n40, n41, b1s, b1s]
          by_cases z2 : b2' = 0
          · rw [if_pos z2]
            by_cases g3 : 0 ≤ b3 ∧ b3 ≤ 0
            · have : ¬ (0 ≤ b4 ∧ b4 ≤ 0) := fun g4 => hare ⟨g1, g2, by rw [if_pos z2]; exact g3, by rw [if_pos (show b3 = 0 by omega)]; exact g4⟩
              rw [decide_eq_true g3, Bool.not_true, boF rfl, if_pos (show b3 = 0 by omega), decide_eq_false this, Bool.not_false, boT rfl]
              exact fin
            · rw [decide_eq_false g3, Bool.not_false, boT rfl]
              exact fin
          · rw [if_neg z2]
            by_cases g3 : 0 ≤ b3 ∧ b3 ≤ 15
            · rw [decide_eq_true g3, Bool.not_true, boF rfl]
              by_cases z3 : b3 = 0
              · have : ¬ (0 ≤ b4 ∧ b4 ≤ 0) := fun g4 => hare ⟨g1, g2, by rw [if_neg z2]; exact g3, by rw [if_pos z3]; exact g4⟩
                rw [if_pos z3, decide_eq_false this, Bool.not_false, boT rfl]
                exact fin
              · have : ¬ (0 ≤ b4 ∧ b4 ≤ 15) := fun g4 => hare ⟨g1, g2, by rw [if_neg z2]; exact g3, by rw [if_neg z3]; exact g4⟩
                rw [if_neg z3, decide_eq_false this, Bool.not_false, boT rfl]
                exact fin
            · rw [decide_eq_false g3, Bool.not_false, boT rfl]
              exact fin
        · rw [decide_eq_false g2, Bool.not_false, boT rfl]
          exact fin
      · rw [decide_eq_false g1, Bool.not_false, boT rfl]
        exact fin
    · rw [if_neg e, bxl, boF (decide_eq_false e), boF (decide_eq_false e), m_holdsN (by decide +kernel), b2s, if_pos rfl]
      exact ⟨_, _, _, _, 1, rfl, rfl, rfl, w_eq, (fun v hv => by cases hv), h.mf moF.th⟩
