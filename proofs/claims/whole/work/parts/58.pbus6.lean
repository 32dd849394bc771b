/-! callBus, put together. -/
theorem phB_none {s : Nat → Nat} {c f : Nat → Int} {cy o t : Int} {u : Option Bus} (h : (act cy o t u).isSome = false) : phB s c f cy o t u = phB s c f cy o t none := by
  have e : act cy o t u = none := by
    cases hz : act cy o t u with
    | none => rfl
    | some b => rw [hz] at h; cases h
  unfold phB
  rw [e]
  rfl
theorem sim_callBus (fu : Nat) (hfu : 100 ≤ fu) : Sim_callBus fu RR := by
  intro S SR x y h
  have h' := h
  obtain ⟨C, V, h1, h2, h3, h4, h5, h6⟩ := h'
  have hx := q_rng x
  have hy := q_rng y
  rw [← q_self x, ← q_self y]
  generalize x.toInt = a at *
  generalize y.toInt = b at *
  have hj : 2 ≤ cJ C ∧ cJ C ≤ 5 := ⟨h1.1, h1.2.1⟩
  unfold fx_X7_callBus f_X8_callBus
  rw [s_at hj.2 h2.1 hx]
  by_cases e : 0 ≤ a ∧ a < cJ C
  · obtain ⟨k, rfl⟩ : ∃ k : Nat, a = (k : Int) := ⟨a.toNat, by omega⟩
    have hk : k < cJ C := by omega
    rw [if_pos e, bxr, show ((k : Int)).toNat = k by omega, s_checkMovement hy]
    by_cases e1 : 0 ≤ b ∧ b < 4
    · obtain ⟨m, rfl⟩ : ∃ m : Nat, b = (m : Int) := ⟨b.toNat, by omega⟩
      have hm : m < 4 := by omega
      obtain ⟨hoJ, hoo⟩ := h1.2.2.2.2.1 k hk
      have hcy := hoJ.2.2.2
      have hK : 0 ≤ vK V ∧ vK V < 10000 := ⟨h4.1, by have := h4.2.1; omega⟩
      have hmn := mny_le (cS C k)
      have hlow := lowP_b (cS C k) m (mny (cS C k)) 0
      have hu : okU (cS C k) (cC C k) (cF C k) (cCy C) (cO C k) (vK V) (vU V k) := h4.2.2.2.2.2.2.2.2.2.2.2.2 k hk
      obtain ⟨hJ, hP, h9⟩ := h2.2.2.1 k hk
      have hlw : f_X3_lowestPhaseWith fu k (i32 (m : Int)) S = some (i32 (lowP (cS C k) m (mny (cS C k)) 0)) := s_low2 hJ hoJ hm (mny (cS C k)) 0 fu (by omega) (by omega)
      obtain ⟨S4, e4, f4, th4, pm4⟩ := m_eoc (fu := fu) hfu h1 h3 h4 h6 hk hm
      rw [if_pos e1, bxr, s_checkPlans (by omega) h1 h2, e4, b2s]
      have refuse : ∃ (z : Nat ⊕ Int32) (S2 : Mem) (y : Int32) (SR2 : Mem) (k_1 : Int32), some ((Sum.inl 2 : Nat ⊕ Int32), S) = some (z, S2) ∧ hc2 3 2 z = some k_1 ∧ some ((0 : Int32), wI S4 8 0 0 2) = some (y, SR2) ∧ SR2.1 8 0 0 = k_1 ∧ (∀ (v : Int32), z = Sum.inr v → v = y) ∧ RR S2 SR2 := ⟨_, _, 0, _, 2, rfl, rfl, rfl, w_eq, (fun v hv => by cases hv), h.mf (f4.trans moF.th)⟩
      by_cases e5 : plA C (cJ C) 0 = true
      · rw [if_pos e5, bxr, hlw, b1s]
        rcases hlow with z | ⟨q, -, hq, z⟩
        · rw [z, q_m1, eqT rfl, if_neg (fun z => z.2.1 rfl), m_holdsN (by decide +kernel), b2s, if_pos rfl]
          exact refuse
        · have hq : q < mny (cS C k) := by omega
          rw [z, q_m1, eqF (by omega) (by omega) (by omega) (by omega) (by omega), h5.1, s_hasBus hcy hoo ⟨hK.1, by omega⟩ hu (h5.2.2.2.2.2.1 k hk).2.2, b1s]
          by_cases e6 : (act (cCy C) (cO C k) (vK V) (vU V k)).isSome = false
          · have hN : (i32 (k : Int)).toNatClampNeg = k := by rw [q_nat (by omega) (by omega)]; omega
            have h0 : 0 ≤ lef (cS C k) (cC C k) (cCy C) := plA_all (cJ C) 0 e5 k (by omega) (by omega)
            have hT := SP_eq (T := wI S 6 0 5 1) hJ hP (fun a i hq => w_ne (by omega))
            have hph : f_X3_phaseIn fu k (i32 (vK V)) (wI S 6 0 5 1) = some (i32 (phB (cS C k) (cC C k) (cF C k) (cCy C) (cO C k) (vK V) none)) := by
              rw [← phB_none e6]
              refine s_phaseIn (by omega) hoJ h0 hT.1 hT.2 (by rw [w_ne (by omega)]; exact h9) hoo ⟨hK.1, by omega⟩ hu ?_
              have hU := (h5.2.2.2.2.2.1 k hk).2.2
              generalize vU V k = u at hU
              cases u with
              | none => exact (w_ne (by omega)).trans hU
              | some b =>
                obtain ⟨j1, j2, j3, a, j4, j5⟩ := hU
                exact ⟨(w_ne (by omega)).trans j1, (w_ne (by omega)).trans j2, (w_ne (by omega)).trans j3, a, (w_ne (by omega)).trans j4, j5⟩
            have hphr : phB (cS C k) (cC C k) (cF C k) (cCy C) (cO C k) (vK V) none = -1 ∨ ∃ r : Nat, r < mny (cS C k) ∧ phB (cS C k) (cC C k) (cF C k) (cCy C) (cO C k) (vK V) none = (r : Int) := pha_ok _
            have hxm := Int.emod_nonneg (vK V - cO C k) (show cCy C ≠ 0 by omega)
            have hxin : ∀ r : Nat, phB (cS C k) (cC C k) (cF C k) (cCy C) (cO C k) (vK V) none = (r : Int) → sms (gcs (grn (cS C k) (cC C k) (cF C k) (cCy C)) (clr (cS C k) (cC C k))) r ≤ (vK V - cO C k) % cCy C ∧ (vK V - cO C k) % cCy C < sms (gcs (grn (cS C k) (cC C k) (cF C k) (cCy C)) (clr (cS C k) (cC C k))) r + grn (cS C k) (cC C k) (cF C k) (cCy C) r := fun r hr => pha_inv (mny (cS C k)) 0 _ r (by show (0 : Int) ≤ _; exact hxm) (by
              rw [show sms (gcs (grn (cS C k) (cC C k) (cF C k) (cCy C)) (clr (cS C k) (cC C k))) 0 = 0 from rfl, Int.sub_zero]
              exact hr)
            obtain ⟨hM4, h24⟩ := (h3.mf (f4.trans (moF.th (v := 0)))).2.1 k hk
            have hP7 : PM (wI S4 8 0 0 0) k (cS C k) (cC C k) (cF C k) (cCy C) := ⟨(w_ne (by omega)).trans (pm4 k hk).1, fun p hq => ⟨(w_ne (by omega)).trans ((pm4 k hk).2 p hq).1, (w_ne (by omega)).trans ((pm4 k hk).2 p hq).2⟩⟩
            have h6' := h6.mf (f4.trans (moF.th (v := 0)))
            have hmp := m_phaseAt0 (fu := fu) (t := vK V) (by omega) hoJ h0 hM4 hP7 h24 hoo ⟨hK.1, by omega⟩
            have hpo : f_X8_phaseOf fu (i32 (k : Int)) (i32 (m : Int)) (wI S4 8 0 0 0) = some (i32 (q : Int)) := by
              rw [← z]; exact m_low2 hM4 hoJ hm (mny (cS C k)) 0 fu (by omega) (by omega)
            have e7 : RR S (wI S4 8 0 0 0) := h.mf (f4.trans moF.th)
            generalize phB (cS C k) (cC C k) (cF C k) (cCy C) (cO C k) (vK V) none = ph at hph hphr hxin hmp
            have hclk := h6'.1
            generalize hS7 : wI S4 8 0 0 0 = S7 at *
            have hcyc := m_cycleOf (fu := fu) (S := wI (wI S7 8 0 3 1) 34 0 k (nb 1)) (t := vK V) hM4.1 (by rw [w_ne (by omega), w_ne (by omega)]; exact hM4.2.2.1) (by rw [w_ne (by omega), w_ne (by omega)]; exact h24) hcy ⟨hoo.1, by omega⟩ ⟨hK.1, by omega⟩
            generalize hZ : wI (wI (wI (wI (wI (wI S7 8 0 3 1) 34 0 k (nb 1)) 35 0 k (i32 ((vK V - cO C k) / cCy C))) 36 0 k (i32 (q : Int))) 37 0 k (i32 (q : Int))) 38 0 k 0 = Z
            have farZ : ∀ a i, a < 34 → (a ≠ 8 ∨ i ≠ 3) → Z.1 a 0 i = S7.1 a 0 i := fun a i q1 q2 => by rw [← hZ, w_ne (by omega), w_ne (by omega), w_ne (by omega), w_ne (by omega), w_ne (by omega), w_ne (by omega)]
            obtain ⟨wM, wP⟩ := SMP_eq (T := Z) hM4 hP7 farZ
            obtain ⟨TR, g1, g2, g3, g4, g5⟩ := m_give (x2 := i32 (m : Int)) hfu hoJ h0 wM wP ((farZ _ _ (by omega) (by omega)).trans h24) ((farZ _ _ (by omega) (by omega)).trans hclk) hoo hK hq hphr hxin (by rw [← hZ, w_ne (by omega), w_eq]) (by rw [← hZ, w_eq]; rfl)
            obtain ⟨TC, c1, c2, c3, c4, c5, c6, c7⟩ := s_take (fu := fu) (m := m) hfu hoJ h0 hT.1 hT.2 (by rw [w_ne (by omega)]; exact h9) hoo hK hm z hq hph hphr
            rw [hN] at g1
            rw [boF e6, w_ne (by omega), h5.1, c1, b2s, if_pos (show plA C (cJ C) 0 = true ∧ (q : Int) ≠ -1 ∧ (act (cCy C) (cO C k) (vK V) (vU V k)).isSome = false from ⟨e5, by omega, e6⟩), show i32 0 = (0 : Int32) from rfl, m_holds0, b2s, if_neg (by decide +kernel), hS7, hN, hclk, hmp, b1s, hpo, b1s, gdt (q_inb (by omega) (by omega) (by omega)), w_ne (by omega), w_ne (by omega), hclk, hcyc, b1s, gdt (q_inb (by omega) (by omega) (by omega)), gdt (q_inb (by omega) (by omega) (by omega)), gdt (q_inb (by omega) (by omega) (by omega)), gdt (q_inb (by omega) (by omega) (by omega)), hZ, g1]
            have hMC : moC S7 C := by rw [← hS7]; exact h3.mf (f4.trans (moF.th (v := 0)))
            have fe : ∀ a b i, ¬ (a = 3 ∧ b = k ∧ 13 ≤ i ∧ i ≤ 16) → ¬ (a = 6 ∧ b = 0 ∧ i = 5) → TC.1 a b i = S.1 a b i := fun a b i q1 q2 => (c6 a b i q1).trans (w_ne q2)
            have fm : ∀ a i, a < 34 → (a ≠ 8 ∨ i ≠ 3) → TR.1 a 0 i = S7.1 a 0 i := fun a i q1 q2 => (g4 a 0 i (by omega)).trans (farZ a i q1 q2)
            have hd := cyc_b hcy hoo (t := vK V) ⟨hK.1, by omega⟩
            have hdm := Int.mul_ediv_add_emod (vK V - cO C k) (cCy C)
            have hG := busG_b (s := cS C k) (c := cC C k) (f := cF C k) (cy := cCy C) (x := (vK V - cO C k) % cCy C) (ph := ph) hoJ h0 hq hphr (fun r hr => (hxin r hr).2)
            refine ⟨_, _, _, _, 0, rfl, rfl, rfl, ?_, (fun v hv => by cases hv; rfl), C, (true, vK V, vA V, vM V, vT V, vQ V, vR V, vW V, va_up (vU V) k (some ((vK V - cO C k) / cCy C, q, (busG (cS C k) (cC C k) (cF C k) (cCy C) ((vK V - cO C k) % cCy C) ph q).1, (busG (cS C k) (cC C k) (cF C k) (cCy C) ((vK V - cO C k) % cCy C) ph q).2))), h1, ?_, ?_, ?_, ?_, ?_⟩
            · rw [fm _ _ (by omega) (by omega), ← hS7, w_eq]
            · refine ⟨(fe _ _ _ (by omega) (by omega)).trans h2.1, (fe _ _ _ (by omega) (by omega)).trans h2.2.1, fun k' hk' => ?_, fun k' hk' => ⟨(fe _ _ _ (by omega) (by omega)).trans (h2.2.2.2 k' hk').1, (fe _ _ _ (by omega) (by omega)).trans (h2.2.2.2 k' hk').2⟩⟩
              obtain ⟨j1, j2, j3⟩ := h2.2.2.1 k' hk'
              obtain ⟨w1, w2⟩ := SP_eq (T := TC) j1 j2 (fun a i hq => fe _ _ _ (by omega) (by omega))
              exact ⟨w1, w2, (fe _ _ _ (by omega) (by omega)).trans j3⟩
            · refine ⟨(fm _ _ (by omega) (by omega)).trans hMC.1, fun k' hk' => ?_, fun k' hk' => ⟨(fm _ _ (by omega) (by omega)).trans (hMC.2.2 k' hk').1, (fm _ _ (by omega) (by omega)).trans (hMC.2.2 k' hk').2⟩⟩
              obtain ⟨⟨a0, a1, a2, a3, a4, a5⟩, j3⟩ := hMC.2.1 k' hk'
              exact ⟨⟨a0, (fm _ _ (by omega) (by omega)).trans a1, (fm _ _ (by omega) (by omega)).trans a2, fun p hq => (fm _ _ (by omega) (by omega)).trans (a3 p hq), fun p hq => (fm _ _ (by omega) (by omega)).trans (a4 p hq), fun p hq => (fm _ _ (by omega) (by omega)).trans (a5 p hq)⟩, (fm _ _ (by omega) (by omega)).trans j3⟩
            · obtain ⟨o1, o2, o3, o4, o5, o6, o7, o8, o9, o10, o11, o12, o13⟩ := h4
              refine ⟨o1, o2, o3, o4, o5, o6, o7, o8, o9, o10, o11, (fun hb => by cases hb), fun k' hk' b' hb' => ?_⟩
              have hb' : va_up (vU V) k (some ((vK V - cO C k) / cCy C, q, (busG (cS C k) (cC C k) (cF C k) (cCy C) ((vK V - cO C k) % cCy C) ph q).1, (busG (cS C k) (cC C k) (cF C k) (cCy C) ((vK V - cO C k) % cCy C) ph q).2)) k' = some b' := hb'
              by_cases ek : k' = k
              · subst ek
                rw [va_up_self] at hb'
                cases hb'
                refine ⟨h0, ?_, hd.1, ?_, hq, hG.1, hG.2.1, hG.2.2.1, hG.2.2.2⟩
                · show (vK V - cO C k') / cCy C * cCy C + cO C k' ≤ vK V
                  rw [Int.mul_comm]
                  omega
                · show (vK V - cO C k') / cCy C ≤ 7200
                  have : (vK V - cO C k') / cCy C < 7201 := by
                    apply Int.ediv_lt_of_lt_mul (by omega)
                    have := Int.mul_le_mul_of_nonneg_left (show (1 : Int) ≤ cCy C by omega) (show (0 : Int) ≤ 7201 by omega)
                    omega
                  omega
              · rw [va_up_ne _ _ ek] at hb'
                exact o13 k' hk' b' hb'
            · obtain ⟨v1, v2, v3, v4, v5, v6, v7⟩ := h5
              refine ⟨(fe _ _ _ (by omega) (by omega)).trans v1, (fe _ _ _ (by omega) (by omega)).trans v2, (fe _ _ _ (by omega) (by omega)).trans v3, (fe _ _ _ (by omega) (by omega)).trans v4, ?_, fun k' hk' => ⟨(fe _ _ _ (by omega) (by omega)).trans (v6 k' hk').1, (fe _ _ _ (by omega) (by omega)).trans (v6 k' hk').2.1, ?_⟩, fun k' hk' => ⟨(fe _ _ _ (by omega) (by omega)).trans (v7 k' hk').1, fun r hr => (fe _ _ _ (by omega) (by omega)).trans ((v7 k' hk').2 r hr)⟩⟩
              · rw [c6 _ _ _ (by omega), w_eq]; rfl
              · show kcU TC k' (cCy C) (cO C k') (va_up (vU V) k (some ((vK V - cO C k) / cCy C, q, (busG (cS C k) (cC C k) (cF C k) (cCy C) ((vK V - cO C k) % cCy C) ph q).1, (busG (cS C k) (cC C k) (cF C k) (cCy C) ((vK V - cO C k) % cCy C) ph q).2)) k')
                by_cases ek : k' = k
                · subst ek
                  rw [va_up_self]
                  refine ⟨?_, c3, c4, c5⟩
                  rw [c2]
                  show i32 (vK V - (vK V - cO C k') % cCy C + cCy C) = i32 ((vK V - cO C k') / cCy C * cCy C + cO C k' + cCy C)
                  rw [Int.mul_comm ((vK V - cO C k') / cCy C)]
                  congr 1
                  omega
                · rw [va_up_ne _ _ ek]
                  have hU := (v6 k' hk').2.2
                  generalize vU V k' = u at hU ⊢
                  cases u with
                  | none => exact (fe _ _ _ (by omega) (by omega)).trans hU
                  | some b =>
                    obtain ⟨j1, j2, j3, a, j4, j5⟩ := hU
                    exact ⟨(fe _ _ _ (by omega) (by omega)).trans j1, (fe _ _ _ (by omega) (by omega)).trans j2, (fe _ _ _ (by omega) (by omega)).trans j3, a, (fe _ _ _ (by omega) (by omega)).trans j4, j5⟩
            · obtain ⟨v1, v2, v3, v4, v5, v6, v7⟩ := h6'
              have fz : ∀ a i, 34 ≤ a → i ≠ k → TR.1 a 0 i = S7.1 a 0 i := fun a i q1 q2 => by
                rw [g4 a 0 i (by omega), ← hZ, w_ne (by omega), w_ne (by omega), w_ne (by omega), w_ne (by omega), w_ne (by omega), w_ne (by omega)]
              refine ⟨(fm _ _ (by omega) (by omega)).trans v1, (fm _ _ (by omega) (by omega)).trans v2, (fm _ _ (by omega) (by omega)).trans v3, (fm _ _ (by omega) (by omega)).trans v4, ?_, fun k' hk' => ⟨(fm _ _ (by omega) (by omega)).trans (v6 k' hk').1, (fm _ _ (by omega) (by omega)).trans (v6 k' hk').2.1, ?_⟩, fun k' hk' => ⟨(fm _ _ (by omega) (by omega)).trans (v7 k' hk').1, fun i hi => (fm _ _ (by omega) (by omega)).trans ((v7 k' hk').2 i hi)⟩⟩
              · rw [g4 _ _ _ (by omega), ← hZ, w_ne (by omega), w_ne (by omega), w_ne (by omega), w_ne (by omega), w_ne (by omega), w_eq]; rfl
              · show moU TR k' (va_up (vU V) k (some ((vK V - cO C k) / cCy C, q, (busG (cS C k) (cC C k) (cF C k) (cCy C) ((vK V - cO C k) % cCy C) ph q).1, (busG (cS C k) (cC C k) (cF C k) (cCy C) ((vK V - cO C k) % cCy C) ph q).2)) k')
                by_cases ek : k' = k
                · subst ek
                  rw [va_up_self]
                  refine ⟨?_, ?_, ?_, g2, g3⟩
                  · rw [g4 _ _ _ (by omega), ← hZ, w_ne (by omega), w_ne (by omega), w_ne (by omega), w_ne (by omega), w_eq, nb_1]
                  · rw [g4 _ _ _ (by omega), ← hZ, w_ne (by omega), w_ne (by omega), w_ne (by omega), w_eq]
                  · rw [g4 _ _ _ (by omega), ← hZ, w_ne (by omega), w_ne (by omega), w_eq]
                · rw [va_up_ne _ _ ek]
                  have hU := (v6 k' hk').2.2
                  generalize vU V k' = u at hU ⊢
                  cases u with
                  | none => exact (fz _ _ (by omega) ek).trans hU
                  | some b =>
                    obtain ⟨j1, j2, j3, j4, j5⟩ := hU
                    exact ⟨(fz _ _ (by omega) ek).trans j1, (fz _ _ (by omega) ek).trans j2, (fz _ _ (by omega) ek).trans j3, (fz _ _ (by omega) ek).trans j4, (fz _ _ (by omega) ek).trans j5⟩
          · have e6' : (act (cCy C) (cO C k) (vK V) (vU V k)).isSome = true := by
              cases hz : (act (cCy C) (cO C k) (vK V) (vU V k)).isSome with
              | true => rfl
              | false => exact absurd hz e6
            rw [boT e6', if_neg (fun z => e6 z.2.2), m_holdsN (by decide +kernel), b2s, if_pos rfl]
            exact refuse
      · rw [if_neg e5, bxl, if_neg (fun z => e5 z.1), m_holdsN (by decide +kernel), b2s, if_pos rfl]
        exact refuse
    · have ee : f_X8_errorOfCall fu (i32 (k : Int)) (i32 b) SR = some (1, SR) := by
        unfold f_X8_errorOfCall f_X8_errorOfCall_15
        rw [m_isJ hj h3.1 (by omega), b1s, boT (decide_eq_true (by omega)), m_isM hy, b1s, boF (decide_eq_false e1)]
      rw [if_neg e1, bxl, ee, b2s, m_holdsN (by decide +kernel), b2s, if_pos rfl]
      exact ⟨_, _, _, _, 1, rfl, rfl, rfl, w_eq, (fun v hv => by cases hv), h.mf moF.th⟩
  · have ee : f_X8_errorOfCall fu (i32 a) (i32 b) SR = some (1, SR) := by
      unfold f_X8_errorOfCall f_X8_errorOfCall_15
      rw [m_isJ hj h3.1 hx, b1s, boF (decide_eq_false e)]
    rw [if_neg e, bxl, ee, b2s, m_holdsN (by decide +kernel), b2s, if_pos rfl]
    exact ⟨_, _, _, _, 1, rfl, rfl, rfl, w_eq, (fun v hv => by cases hv), h.mf moF.th⟩
