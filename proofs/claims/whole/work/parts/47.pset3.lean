/-! setConflict. -/
def oneP (s : Nat → Nat) (m o p : Nat) : Bool := (s p).testBit m && (s p).testBit o
section HO
variable {fu k : Nat} {s : Nat → Nat} {c f : Nat → Int} {cy : Int} {S : Mem}
theorem s_hop2 (hJ : SJ S k s c f cy) (ho : okJ s c f cy) {m o : Nat} (hm : m < 4) (hoo : o < 4) : ∀ d p n : Nat, p + d = mny s → d < n → f_X3_haveOnePhase_2 fu k (i32 (m : Int)) (i32 (o : Int)) S n (i32 (p : Int)) = some (bo (anyF (oneP s m o) d p)) := by
  intro d
  have hmn := mny_le s
  induction d with
  | zero =>
    intro p n hp hn
    obtain ⟨n, rfl⟩ : ∃ n', n = n' + 1 := ⟨n - 1, by omega⟩
    rw [f_X3_haveOnePhase_2, hJ.1, leT (by omega) (by omega) (by omega), nb_0]
    rfl
  | succ d ih =>
    intro p n hp hn
    obtain ⟨n, rfl⟩ : ∃ n', n = n' + 1 := ⟨n - 1, by omega⟩
    have ih' := ih (p + 1) n (by omega) (by omega)
    have e : anyF (oneP s m o) (d + 1) p = (((s p).testBit m && (s p).testBit o) || anyF (oneP s m o) d (p + 1)) := rfl
    have e3 : i32 (p : Int) + 1 = i32 ((p + 1 : Nat) : Int) := by rw [q_1, q_add]; rfl
    rw [e, f_X3_haveOnePhase_2, hJ.1, leF (by omega) (by omega) (by omega), s_read (by omega) (by omega) (by omega), b1s, show ((p : Int)).toNat = p by omega, hJ.2.2.1 p (by omega), s_hasBit (ho.1 p (by omega)) hm, b1s]
    unfold f_X3_haveOnePhase_40
    rw [e3]
    cases (s p).testBit m with
    | false => rw [boF rfl, Bool.false_and, Bool.false_or]; exact ih'
    | true =>
      rw [boT rfl, s_hasBit (ho.1 p (by omega)) hoo, b1s, Bool.true_and]
      cases (s p).testBit o with
      | false => rw [boF rfl, Bool.false_or]; exact ih'
      | true => rw [boT rfl, nb_1, Bool.true_or]; rfl
/-- what setConflict answers at last -/
def ecR (m o : Nat) (v : Int) (bg b : Bool) : Int := if m = o ∨ ¬ (-1 ≤ v ∧ v ≤ 9) then 2 else if (v ≠ -1 ∧ b = true) ∨ bg = true then 3 else 0
theorem m_ec30 (hM : SM S k s c f cy) (ho : okJ s c f cy) {bg : Bool} (h3 : S.1 8 0 3 = bo bg) {m o : Nat} (hm : m < 4) (hoo : o < 4) {v : Int} (hv : -2147483648 ≤ v ∧ v < 2147483648) : ∀ (d p n : Nat) (acc : Bool), p + d = mny s → d < n → f_X8_errorOfConflict_30 fu (i32 (k : Int)) (i32 (m : Int)) (i32 (o : Int)) (i32 v) S n (bo acc) (i32 (p : Int)) = some (i32 (ecR m o v bg (acc || anyF (oneP s m o) d p))) := by
  intro d
  have hmn := mny_le s
  have hk := hM.1
  induction d with
  | zero =>
    intro p n acc hp hn
    obtain ⟨n, rfl⟩ : ∃ n', n = n' + 1 := ⟨n - 1, by omega⟩
    have e0 : anyF (oneP s m o) 0 p = false := rfl
    rw [e0, Bool.or_false, f_X8_errorOfConflict_30, gdt (q_inb (by omega) (by omega) (by omega)), q_nat (a := (k : Int)) (by omega) (by omega), show ((k : Int)).toNat = k by omega, hM.2.1, leT (by omega) (by omega) (by omega)]
    unfold f_X8_errorOfConflict_106 f_X8_errorOfConflict_121 f_X8_errorOfConflict_128 f_X8_errorOfConflict_133 ecR
    have ein : f_X8_in fu (i32 v) (-1) 9 S = some (bo (decide (-1 ≤ v ∧ v ≤ 9))) := by
      rw [q_m1]; exact s_in (b := -1) (c := 9) (by omega) (by omega) (by omega) (by omega) (by omega) (by omega)
    by_cases e1 : m = o
    · subst e1
      rw [if_pos rfl, if_pos (Or.inl rfl), q_2]
    · rw [eqF (by omega) (by omega) (by omega) (by omega) (by omega), ein, b1s]
      by_cases e2 : -1 ≤ v ∧ v ≤ 9
      · rw [boT (decide_eq_true e2), if_neg (show ¬ (m = o ∨ ¬ (-1 ≤ v ∧ v ≤ 9)) by omega), h3]
        by_cases e3 : v = -1
        · rw [if_pos (show i32 v = (-1 : Int32) by rw [q_m1, e3])]
          cases bg with
          | false => rw [boF rfl, if_neg (by simp; omega), q_0]
          | true => rw [boT rfl, if_pos (by simp), q_3]
        · rw [if_neg (fun z => e3 ((q_eq (by omega) (by omega) (by omega) (by omega)).mp (z.trans q_m1)))]
          cases acc with
          | false =>
            rw [boF rfl]
            cases bg with
            | false => rw [boF rfl, if_neg (by simp), q_0]
            | true => rw [boT rfl, if_pos (by simp), q_3]
          | true => rw [boT rfl, if_pos (by simp; omega), q_3]
      · rw [boF (decide_eq_false e2), if_pos (Or.inr e2), q_2]
  | succ d ih =>
    intro p n acc hp hn
    obtain ⟨n, rfl⟩ : ∃ n', n = n' + 1 := ⟨n - 1, by omega⟩
    have e : anyF (oneP s m o) (d + 1) p = (((s p).testBit m && (s p).testBit o) || anyF (oneP s m o) d (p + 1)) := rfl
    have e3 : i32 (p : Int) + 1 = i32 ((p + 1 : Nat) : Int) := by rw [q_1, q_add]; rfl
    rw [e, f_X8_errorOfConflict_30, gdt (q_inb (by omega) (by omega) (by omega)), q_nat (a := (k : Int)) (by omega) (by omega), show ((k : Int)).toNat = k by omega, hM.2.1, leF (by omega) (by omega) (by omega), q_4, q_mul, q_add, gdt (q_inb (by omega) (by omega) (by omega)), q_nat (by omega) (by omega), show (4 * (k : Int) + (p : Int)).toNat = 4 * k + p by omega, hM.2.2.2.1 p (by omega), s_has (ho.1 p (by omega)) hm, b1s]
    unfold f_X8_errorOfConflict_77 f_X8_errorOfConflict_81 f_X8_errorOfConflict_82
    rw [e3]
    cases acc with
    | true =>
      rw [boT rfl, Bool.true_or]
      have := ih (p + 1) n true (by omega) (by omega)
      rw [Bool.true_or] at this
      exact this
    | false =>
      rw [boF rfl, Bool.false_or]
      cases (s p).testBit m with
      | false =>
        rw [boF rfl, Bool.false_and, Bool.false_or]
        have := ih (p + 1) n false (by omega) (by omega)
        rw [Bool.false_or] at this
        exact this
      | true =>
        rw [boT rfl, s_has (ho.1 p (by omega)) hoo, b1s, Bool.true_and]
        cases (s p).testBit o with
        | false =>
          rw [boF rfl, Bool.false_or]
          have := ih (p + 1) n false (by omega) (by omega)
          rw [Bool.false_or] at this
          exact this
        | true =>
          rw [boT rfl, Bool.true_or]
          have := ih (p + 1) n true (by omega) (by omega)
          rw [Bool.true_or] at this
          exact this
end HO
theorem sim_setConflict (fu : Nat) (hfu : 100 ≤ fu) : Sim_setConflict fu RR := by
  intro S SR x y y2 w h
  have h' := h
  obtain ⟨C, V, h1, h2, h3, h4, h5, h6⟩ := h'
  have hx := q_rng x
  have hy := q_rng y
  have hy2 := q_rng y2
  have hw := q_rng w
  rw [← q_self x, ← q_self y, ← q_self y2, ← q_self w]
  generalize x.toInt = a at *
  generalize y.toInt = b at *
  generalize y2.toInt = b2 at *
  generalize w.toInt = v at *
  have hj : 2 ≤ cJ C ∧ cJ C ≤ 5 := ⟨h1.1, h1.2.1⟩
  unfold fx_X7_setConflict fx_X7_setConflict_34 fx_X7_setConflict_74 f_X8_setConflict f_X8_errorOfConflict f_X8_errorOfConflict_22
  rw [s_at hj.2 h2.1 hx, m_isJ hj h3.1 hx, b1s]
  by_cases e : 0 ≤ a ∧ a < cJ C
  · obtain ⟨k, rfl⟩ : ∃ k : Nat, a = (k : Int) := ⟨a.toNat, by omega⟩
    have hk : k < cJ C := by omega
    obtain ⟨hoJ, hoo⟩ := h1.2.2.2.2.1 k hk
    rw [if_pos e, bxr, boT (decide_eq_true e), m_isM hy, b1s, show ((k : Int)).toNat = k by omega, s_checkMovement hy]
    by_cases e1 : 0 ≤ b ∧ b < 4
    · obtain ⟨m, rfl⟩ : ∃ m : Nat, b = (m : Int) := ⟨b.toNat, by omega⟩
      have hm : m < 4 := by omega
      rw [if_pos e1, bxr, boT (decide_eq_true e1), m_isM hy2, b1s, s_checkMovement hy2]
      by_cases e2 : 0 ≤ b2 ∧ b2 < 4
      · obtain ⟨o, rfl⟩ : ∃ o : Nat, b2 = (o : Int) := ⟨b2.toNat, by omega⟩
        have ho4 : o < 4 := by omega
        have hJ := (h2.2.2.1 k hk).1
        have hM := (h3.2.1 k hk).1
        have hmn := mny_le (cS C k)
        have hec : f_X8_errorOfConflict_30 fu (i32 (k : Int)) (i32 (m : Int)) (i32 (o : Int)) (i32 v) SR fu 0 0 = _ := m_ec30 (fu := fu) hM hoJ h6.2.2.2.2.1 hm ho4 hw (mny (cS C k)) 0 fu false (by omega) (by omega)
        rw [Bool.false_or] at hec
        rw [if_pos e2, bxr, boT (decide_eq_true e2), hec, b1s]
        have ein : f_X7_isOutside fu (i32 v) (-1) 9 S = some (bo (!decide (-1 ≤ v ∧ v ≤ 9))) := by
          rw [q_m1]; exact s_isOutside (b := -1) (c := 9) (by omega) (by omega) (by omega) (by omega) (by omega) (by omega)
        by_cases e3 : m = o
        · subst e3
          have er : ecR m m v (vB V) (anyF (oneP (cS C k) m m) (mny (cS C k)) 0) = 2 := by unfold ecR; rw [if_pos (Or.inl rfl)]
          rw [if_pos rfl, er, m_holdsN (by decide +kernel), b2s, if_pos rfl]
          exact ⟨_, _, _, _, 2, rfl, rfl, rfl, w_eq, (fun v hv => by cases hv), h.mf moF.th⟩
        · rw [eqF (by omega) (by omega) (by omega) (by omega) (by omega), ein, b1s]
          by_cases e4 : -1 ≤ v ∧ v ≤ 9
          · rw [decide_eq_true e4, Bool.not_true, boF rfl, s_settingUp h5]
            cases hb : vB V with
            | true =>
              have er : ecR m o v true (anyF (oneP (cS C k) m o) (mny (cS C k)) 0) = 3 := by unfold ecR; rw [if_neg (by omega), if_pos (by simp)]
              rw [if_neg (by simp), bxl, er, m_holdsN (by decide +kernel), b2s, if_pos rfl]
              exact ⟨_, _, _, _, 3, rfl, rfl, rfl, w_eq, (fun v hv => by cases hv), h.mf moF.th⟩
            | false =>
              rw [if_pos rfl, bxr]
              have hho : f_X3_haveOnePhase fu k (i32 (m : Int)) (i32 (o : Int)) S = some (bo (anyF (oneP (cS C k) m o) (mny (cS C k)) 0)) := s_hop2 hJ hoJ hm ho4 (mny (cS C k)) 0 fu (by omega) (by omega)
              have key : (v = -1 ∨ anyF (oneP (cS C k) m o) (mny (cS C k)) 0 = false) → ∃ (z : Nat ⊕ Int32) (S2 : Mem) (y : Int32) (SR2 : Mem) (k_1 : Int32), (b1 (f_X3_clearanceOf fu k (i32 (m : Int)) (i32 (o : Int)) S) fun r78 => b2 (f_X3_changeClearance fu k (i32 (m : Int)) (i32 (o : Int)) (i32 v) S) fun _ S89 => some ((Sum.inr r78 : Nat ⊕ Int32), S89)) = some (z, S2) ∧ hc3 3 1 2 z = some k_1 ∧ (b2 (f_X8_holds fu (i32 (ecR m o v false (anyF (oneP (cS C k) m o) (mny (cS C k)) 0))) SR) fun r10 S10 => if r10 = 0 then some (0, S10) else b1 (f_X8_conflict fu (i32 (k : Int)) (i32 (m : Int)) (i32 (o : Int)) S10) fun r25 => gd (inb r25 80) (b1 (f_X8_conflict fu (i32 (k : Int)) (i32 (m : Int)) (i32 (o : Int)) S10) fun r38 => gd (inb r38 80) (b1 (f_X8_conflict fu (i32 (k : Int)) (i32 (o : Int)) (i32 (m : Int)) (wI S10 20 0 r38.toNatClampNeg (i32 v))) fun r51 => gd (inb r51 80) (some (S10.1 20 0 r25.toNatClampNeg, wI (wI S10 20 0 r38.toNatClampNeg (i32 v)) 20 0 r51.toNatClampNeg (i32 v)))))) = some (y, SR2) ∧ SR2.1 8 0 0 = k_1 ∧ (∀ (v : Int32), z = Sum.inr v → v = y) ∧ RR S2 SR2 := by
                intro hc0
                have er : ecR m o v false (anyF (oneP (cS C k) m o) (mny (cS C k)) 0) = 0 := by
                  unfold ecR
                  rw [if_neg (by omega), if_neg]
                  rintro (⟨z1, z2⟩ | z)
                  · rcases hc0 with z3 | z3
                    · exact z1 z3
                    · rw [z3] at z2; cases z2
                  · cases z
                have ho' : okJ (cS C k) (va_up (va_up (cC C k) (4 * m + o) v) (4 * o + m) v) (cF C k) (cCy C) := ⟨hoJ.1, fun q hq => by
                  unfold va_up; split
                  · omega
                  · split
                    · omega
                    · exact hoJ.2.1 q hq, hoJ.2.2⟩
                have hJ' : SJ (wI (wI S 11 k (4 * m + o) (i32 v)) 11 k (4 * o + m) (i32 v)) k (cS C k) (va_up (va_up (cC C k) (4 * m + o) v) (4 * o + m) v) (cF C k) (cCy C) := ⟨(w_ne (by omega)).trans ((w_ne (by omega)).trans hJ.1), (w_ne (by omega)).trans ((w_ne (by omega)).trans hJ.2.1), fun p hp => (w_ne (by omega)).trans ((w_ne (by omega)).trans (hJ.2.2.1 p hp)), fun q hq => by
                  rw [w_ok, w_ok]
                  unfold va_up
                  by_cases em : q = 4 * o + m
                  · rw [if_pos ⟨rfl, rfl, em⟩, if_pos em]
                  · rw [if_neg (by omega), if_neg em]
                    by_cases em2 : q = 4 * m + o
                    · rw [if_pos ⟨rfl, rfl, em2⟩, if_pos em2]
                    · rw [if_neg (by omega), if_neg em2]; exact hJ.2.2.2.1 q hq, fun m' hm' => (w_ne (by omega)).trans ((w_ne (by omega)).trans (hJ.2.2.2.2 m' hm'))⟩
                obtain ⟨S', hmp, hfp, hsj, hpl⟩ := s_makePlan (fu := fu) hfu hJ' ho'
                have ecl : f_X3_changeClearance fu k (i32 (m : Int)) (i32 (o : Int)) (i32 v) S = some ((), S') := by
                  unfold f_X3_changeClearance f_X3_writeClearance
                  rw [q_4, q_mul, q_add, s_write (by omega) (by omega) (by omega), b2s, q_mul, q_add, s_write (by omega) (by omega) (by omega), b2s, b2s, show ((m : Int) * 4 + (o : Int)).toNat = 4 * m + o by omega, show ((o : Int) * 4 + (m : Int)).toNat = 4 * o + m by omega, hmp, b2s]
                rw [s_clearanceOf hm ho4 hJ.2.2.2.1, b1s, ecl, b2s, er, show i32 0 = (0 : Int32) from rfl, m_holds0, b2s, if_neg (by decide +kernel)]
                have ecf : ∀ (p q : Nat) (T : Mem), f_X8_conflict fu (i32 (k : Int)) (i32 (p : Int)) (i32 (q : Int)) T = some (i32 (16 * (k : Int) + 4 * (p : Int) + (q : Int))) := fun p q T => by
                  unfold f_X8_conflict
                  rw [q_16, q_4, q_mul, q_mul, q_add, q_add]
                rw [ecf, b1s, gdt (q_inb (by omega) (by omega) (by omega)), b1s, gdt (q_inb (by omega) (by omega) (by omega)), ecf, b1s, gdt (q_inb (by omega) (by omega) (by omega)), q_nat (by omega) (by omega), q_nat (by omega) (by omega), show (16 * (k : Int) + 4 * (m : Int) + (o : Int)).toNat = 16 * k + (4 * m + o) by omega, show (16 * (k : Int) + 4 * (o : Int) + (m : Int)).toNat = 16 * k + (4 * o + m) by omega]
                refine ⟨_, _, _, _, 0, rfl, rfl, rfl, (w_ne (by omega)).trans ((w_ne (by omega)).trans w_eq), (fun v hv => ?_), RR_upd h1 h2 h3 h4 h5 h6 hb hk ho' ((frJ.w (by omega)).trans ((frJ.w (by omega)).trans (frJ.pl hfp))) hsj hpl ((frN.w (by omega)).trans ((frN.w (k := k) (by omega)).trans (frN.w (k := k) (by omega)))) ⟨hM.1, ?_, ?_, fun p hp => ?_, fun q hq => ?_, fun m' hm' => ?_⟩⟩
                · cases hv
                  rw [w_ne (by omega), hM.2.2.2.2.1 (4 * m + o) (by omega)]
                · rw [w_ne (by omega), w_ne (by omega), w_ne (by omega)]; exact hM.2.1
                · rw [w_ne (by omega), w_ne (by omega), w_ne (by omega)]; exact hM.2.2.1
                · rw [w_ne (by omega), w_ne (by omega), w_ne (by omega)]; exact hM.2.2.2.1 p hp
                · rw [w_ok, w_ok]
                  unfold va_up
                  by_cases em : q = 4 * o + m
                  · rw [if_pos ⟨rfl, rfl, by omega⟩, if_pos em]
                  · rw [if_neg (by omega), if_neg em]
                    by_cases em2 : q = 4 * m + o
                    · rw [if_pos ⟨rfl, rfl, by omega⟩, if_pos em2]
                    · rw [if_neg (by omega), if_neg em2, w_ne (by omega)]; exact hM.2.2.2.2.1 q hq
                · rw [w_ne (by omega), w_ne (by omega), w_ne (by omega)]; exact hM.2.2.2.2.2 m' hm'
              by_cases e5 : v = -1
              · rw [if_pos (show i32 v = (-1 : Int32) by rw [q_m1, e5])]
                exact key (Or.inl e5)
              · rw [if_neg (fun z => e5 ((q_eq (by omega) (by omega) (by omega) (by omega)).mp (z.trans q_m1))), hho, b1s]
                cases hany : anyF (oneP (cS C k) m o) (mny (cS C k)) 0 with
                | false =>
                  rw [boF rfl]
                  rw [hany] at key
                  exact key (Or.inr rfl)
                | true =>
                  have er : ecR m o v false true = 3 := by unfold ecR; rw [if_neg (by omega), if_pos (Or.inl ⟨e5, rfl⟩)]
                  rw [boT rfl, er, m_holdsN (by decide +kernel), b2s, if_pos rfl]
                  exact ⟨_, _, _, _, 3, rfl, rfl, rfl, w_eq, (fun v hv => by cases hv), h.mf moF.th⟩
          · have er : ecR m o v (vB V) (anyF (oneP (cS C k) m o) (mny (cS C k)) 0) = 2 := by unfold ecR; rw [if_pos (Or.inr e4)]
            rw [decide_eq_false e4, Bool.not_false, boT rfl, er, m_holdsN (by decide +kernel), b2s, if_pos rfl]
            exact ⟨_, _, _, _, 2, rfl, rfl, rfl, w_eq, (fun v hv => by cases hv), h.mf moF.th⟩
      · rw [if_neg e2, bxl, boF (decide_eq_false e2), b1s, m_holdsN (by decide +kernel), b2s, if_pos rfl]
        exact ⟨_, _, _, _, 1, rfl, rfl, rfl, w_eq, (fun v hv => by cases hv), h.mf moF.th⟩
    · rw [if_neg e1, bxl, boF (decide_eq_false e1), b1s, m_holdsN (by decide +kernel), b2s, if_pos rfl]
      exact ⟨_, _, _, _, 1, rfl, rfl, rfl, w_eq, (fun v hv => by cases hv), h.mf moF.th⟩
  · rw [if_neg e, bxl, boF (decide_eq_false e), b1s, m_holdsN (by decide +kernel), b2s, if_pos rfl]
    exact ⟨_, _, _, _, 1, rfl, rfl, rfl, w_eq, (fun v hv => by cases hv), h.mf moF.th⟩
