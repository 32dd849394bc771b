/-! improve: rounds. -/
theorem bo_or (a b : Bool) : (bo a ||| bo b) = bo (a || b) := by cases a <;> cases b <;> decide +kernel
section IQ
variable {fu : Nat} {V : Rn}
theorem i_one {C : Cf} {S SR : Mem} {k : Nat} (hfu : 200 ≤ fu) (h : IM V C S SR) (hk : k < cJ C) : ∃ (S' SR' : Mem) (C' : Cf) (r : Bool), f_X0_improveOffset fu (i32 (k : Int)) S = some (bo r, S') ∧ f_X8_betters fu (i32 (k : Int)) SR = some (bo r, SR') ∧ IM V C' S' SR' ∧ cJ C' = cJ C ∧ cCy C' = cCy C := by
  have h' := h
  obtain ⟨h1, h2, h3, h4, h5, h6, hb, h0, hp, hz⟩ := h'
  have hj : 2 ≤ cJ C ∧ cJ C ≤ 5 := ⟨h1.1, h1.2.1⟩
  have hcy := h1.2.2
  obtain ⟨n, hn⟩ : ∃ n : Nat, cCy C = (n : Int) := ⟨(cCy C).toNat, by omega⟩
  have ho := (h1.2.2.2.2.1 k hk).2
  obtain ⟨b, hb'⟩ : ∃ b : Nat, cO C k = (b : Int) := ⟨(cO C k).toNat, by omega⟩
  have hN : (i32 (k : Int)).toNatClampNeg = k := by rw [q_nat (by omega) (by omega)]; omega
  obtain ⟨S', s1, s2, s3⟩ := s_imp1 (fu := fu) hfu hn h1 h2 h0 hk
  obtain ⟨SR', m1, m2, m3⟩ := m_bet15 (fu := fu) (k := k) (b := b) hfu hn (MB.of h1 h0 h3 hp) hk (by omega) n 0 fu 0 (-1) SR (by omega) (by omega) (by omega) (by omega) (by omega) (fun _ _ _ _ => rfl)
  have e0 := bst_0 (F := oneS C n k) (n := n) (oneS_b C n k 0).1 (by omega)
  have hl := bst_lt (oneS C n k) n 0 0 0 n (by omega) (by omega)
  rw [← e0] at m1 m3
  refine ⟨S', SR', setO C k (bst (oneS C n k) n 0 0 0 : Int), _, s1, ?_, h.off hk (by omega) s2 s3 m2 m3, rfl, rfl⟩
  unfold f_X8_betters
  have m1' : f_X8_betters_15 fu (i32 (k : Int)) fu (i32 (b : Int)) (-1) 0 0 SR = _ := m1
  rw [gdt (q_inb (by omega) (by omega) (by omega)), hN, (h3.2.1 k hk).2, hb', m1']
  congr 3
  congr 1
  exact decide_eq_decide.mpr (by omega)
theorem i_round (hfu : 200 ≤ fu) : ∀ (d k : Nat) (acc : Bool) (C : Cf) (S SR : Mem), k + d = cJ C → IM V C S SR → ∃ (S' SR' : Mem) (C' : Cf) (acc' : Bool), (∀ (m : Nat) (K4 : Int32 → Int32 → Mem → Option (Int32 × Mem)) (x2 : Int32), f_X0_improveOffsets_18 fu K4 (m + 1 + d) (bo acc) x2 (i32 (k : Int)) S = K4 (bo acc') (x2 + 1) S') ∧ (∀ (m : Nat) (K32 : Int32 → Int32 → Mem → Option (Int32 × Mem)) (x2 : Int32), f_X8_improve_46 fu K32 (m + 1 + d) (bo acc) x2 (i32 (k : Int)) SR = K32 (bo acc') (x2 + 1) SR') ∧ IM V C' S' SR' ∧ cJ C' = cJ C ∧ cCy C' = cCy C := by
  intro d
  induction d with
  | zero =>
    intro k acc C S SR hk h
    have hj : 2 ≤ cJ C ∧ cJ C ≤ 5 := ⟨h.1.1, h.1.2.1⟩
    refine ⟨S, SR, C, acc, fun m K4 x2 => ?_, fun m K32 x2 => ?_, h, rfl, rfl⟩
    · rw [Nat.add_zero, f_X0_improveOffsets_18, h.2.1.1, leT (by omega) (by omega) (by omega)]
    · rw [Nat.add_zero, f_X8_improve_46, h.2.2.1.1, leT (by omega) (by omega) (by omega)]
  | succ d ih =>
    intro k acc C S SR hk h
    have hj : 2 ≤ cJ C ∧ cJ C ≤ 5 := ⟨h.1.1, h.1.2.1⟩
    obtain ⟨S1, SR1, C1, r, a1, a2, a3, a4, a5⟩ := i_one (fu := fu) hfu h (k := k) (by omega)
    obtain ⟨S', SR', C', acc', b1', b2', b3, b4, b5⟩ := ih (k + 1) (acc || r) C1 S1 SR1 (by omega) a3
    have e3 : i32 (k : Int) + 1 = i32 ((k + 1 : Nat) : Int) := by rw [q_1, q_add]; rfl
    refine ⟨S', SR', C', acc', fun m K4 x2 => ?_, fun m K32 x2 => ?_, b3, b4.trans a4, b5.trans a5⟩
    · rw [show m + 1 + (d + 1) = (m + 1 + d) + 1 by omega, f_X0_improveOffsets_18, h.2.1.1, leF (by omega) (by omega) (by omega), a1, b2s, bo_or, e3]
      exact b1' m K4 x2
    · rw [show m + 1 + (d + 1) = (m + 1 + d) + 1 by omega]
      unfold f_X8_improve_46 f_X8_improve_66 f_X8_improve_71
      rw [h.2.2.1.1, leF (by omega) (by omega) (by omega), a2, b2s, e3]
      have z := b2' m K32 x2
      cases r with
      | true =>
        rw [boT rfl]
        rw [Bool.or_true] at z
        exact z
      | false =>
        rw [boF rfl]
        rw [Bool.or_false] at z
        cases acc with
        | true => rw [boT rfl]; exact z
        | false => rw [boF rfl]; exact z
theorem i_rounds (hfu : 200 ≤ fu) : ∀ (d r m m' : Nat) (acc : Bool) (C : Cf) (S SR : Mem), r + d = 10 → d < m → d < m' → IM V C S SR → ∃ (S' SR' : Mem) (C' : Cf), f_X0_improveOffsets_4 fu m (bo acc) (i32 (r : Int)) S = f_X0_improveOffsets_49 fu S' ∧ f_X8_improve_32 fu m' (bo acc) (i32 (r : Int)) SR = f_X8_improve_84 fu SR' ∧ IM V C' S' SR' := by
  intro d
  have q_10 : (10 : Int32) = i32 10 := rfl
  induction d with
  | zero =>
    intro r m m' acc C S SR hr hm hm' h
    obtain ⟨m, rfl⟩ : ∃ n', m = n' + 1 := ⟨m - 1, by omega⟩
    obtain ⟨m', rfl⟩ : ∃ n', m' = n' + 1 := ⟨m' - 1, by omega⟩
    refine ⟨S, SR, C, ?_, ?_, h⟩
    · rw [f_X0_improveOffsets_4, q_10, leT (by omega) (by omega) (by omega)]
    · rw [f_X8_improve_32, q_10, leT (by omega) (by omega) (by omega)]
  | succ d ih =>
    intro r m m' acc C S SR hr hm hm' h
    obtain ⟨m, rfl⟩ : ∃ n', m = n' + 1 := ⟨m - 1, by omega⟩
    obtain ⟨m', rfl⟩ : ∃ n', m' = n' + 1 := ⟨m' - 1, by omega⟩
    cases acc with
    | false =>
      refine ⟨S, SR, C, ?_, ?_, h⟩
      · rw [f_X0_improveOffsets_4, q_10, leF (by omega) (by omega) (by omega), boF rfl]
      · rw [f_X8_improve_32, q_10, leF (by omega) (by omega) (by omega), boF rfl]
    | true =>
      have hj : 2 ≤ cJ C ∧ cJ C ≤ 5 := ⟨h.1.1, h.1.2.1⟩
      obtain ⟨S1, SR1, C1, acc1, a1, a2, a3, a4, a5⟩ := i_round (fu := fu) hfu (cJ C - 1) 1 false C S SR (by omega) h
      obtain ⟨S', SR', C', b1', b2', b3⟩ := ih (r + 1) m m' acc1 C1 S1 SR1 (by omega) (by omega) (by omega) a3
      have e3 : i32 (r : Int) + 1 = i32 ((r + 1 : Nat) : Int) := by rw [q_1, q_add]; rfl
      obtain ⟨f, hf⟩ : ∃ f, fu = f + 1 + (cJ C - 1) := ⟨fu - 1 - (cJ C - 1), by omega⟩
      have a1' := a1 f (f_X0_improveOffsets_4 fu m) (i32 (r : Int))
      have a2' := a2 f (f_X8_improve_32 fu m') (i32 (r : Int))
      rw [← hf, e3] at a1' a2'
      refine ⟨S', SR', C', ?_, ?_, b3⟩
      · rw [f_X0_improveOffsets_4, q_10, leF (by omega) (by omega) (by omega), boT rfl]
        exact a1'.trans b1'
      · rw [f_X8_improve_32, q_10, leF (by omega) (by omega) (by omega), boT rfl]
        exact a2'.trans b2'
end IQ
theorem sim_improve (fu : Nat) (hfu : 200 ≤ fu) : Sim_improve fu RR := by
  intro S SR h
  have h' := h
  obtain ⟨C, V, h1, h2, h3, h4, h5, h6⟩ := h'
  have hj : 2 ≤ cJ C ∧ cJ C ≤ 5 := ⟨h1.1, h1.2.1⟩
  have hcy := h1.2.2
  obtain ⟨S4, e4, f4, th4, pm4⟩ := m_all (fu := fu) (by omega) h1 h3
  have h6' := h6.mf f4
  unfold fx_X7_improve f_X8_improve f_X8_improve_15 f_X8_improve_20
  rw [s_checkPlans (by omega) h1 h2, e4, b2s]
  have refuse : ∃ (z : Nat ⊕ Int32) (S2 : Mem) (y : Int32) (SR2 : Mem) (k_1 : Int32), some ((Sum.inl 2 : Nat ⊕ Int32), S) = some (z, S2) ∧ hc1 2 z = some k_1 ∧ (b2 (f_X8_holds fu 1 S4) (fun r20 S20 => (if r20 = 0 then some (0, S20) else f_X8_improve_32 fu fu 1 0 S20))) = some (y, SR2) ∧ SR2.1 8 0 0 = k_1 ∧ (∀ (v : Int32), z = Sum.inr v → v = y) ∧ RR S2 SR2 := by
    rw [m_holdsN (by decide +kernel), b2s, if_pos rfl]
    exact ⟨_, _, 0, _, 1, rfl, rfl, rfl, w_eq, (fun v hv => by cases hv), h.mf (f4.trans moF.th)⟩
  by_cases e5 : plA C (cJ C) 0 = true
  · rw [if_pos e5, bxr, boT e5, s_settingUp h5, h6'.2.2.2.2.1]
    cases hb : vB V with
    | true =>
      rw [if_neg (by simp), bxl, boT rfl]
      exact refuse
    | false =>
      rw [if_pos rfl, bxr, boF rfl, m_holds0, b2s, if_neg (by decide +kernel)]
      have h0 : ∀ k, k < cJ C → 0 ≤ lef (cS C k) (cC C k) (cCy C) := fun k hk => plA_all (cJ C) 0 e5 k (by omega) (by omega)
      have hI : IM V C S (wI S4 8 0 0 0) := ⟨h1, h2, h3.mf (f4.trans moF.th), h4, h5, h6.mf (f4.trans moF.th), hb, h0, pm4.th, w_eq⟩
      obtain ⟨S', SR', C', r1, r2, r3⟩ := i_rounds (fu := fu) hfu 10 0 fu fu true C S (wI S4 8 0 0 0) (by omega) (by omega) (by omega) hI
      have r1' : f_X0_improveOffsets_4 fu fu 1 0 S = _ := r1
      have r2' : f_X8_improve_32 fu fu 1 0 (wI S4 8 0 0 0) = _ := r2
      obtain ⟨g1, g2, g3, g4, g5, g6, gb, g0, gp, gz⟩ := r3
      have gcy := g1.2.2
      obtain ⟨n, hn⟩ : ∃ n : Nat, cCy C' = (n : Int) := ⟨(cCy C').toNat, by omega⟩
      obtain ⟨S2, a1, a2, a3⟩ := s_common (fu := fu) (w := -1) hfu g1 g2 g0 hn (by omega)
      have hc := s_cnt2 (fu := fu) (show n ≤ 128 by omega) a3 a3
      have hm := m_bands (fu := fu) (by omega) hn (MB.of g1 g0 g3 gp)
      have eb : cntF (fun t => aF C' (cO C') (-1) t && aF C' (cO C') (-1) t) n 0 + cntF (fun t => aB C' (cO C') (-1) t && aB C' (cO C') (-1) t) n 0 = bsum C' n (cO C') := by
        unfold bsum
        congr 1
        · exact cntF_congr n 0 (fun j _ _ => Bool.and_self _)
        · exact cntF_congr n 0 (fun j _ _ => Bool.and_self _)
      unfold f_X0_improveOffsets
      rw [r1', r2']
      unfold f_X0_improveOffsets_49 f_X8_improve_84
      rw [q_m1, a1, b2s, hc, b1s, b2s, hm, b1s, eb]
      refine ⟨_, _, _, _, 0, rfl, rfl, rfl, gz, (fun v hv => by cases hv; rfl), ?_⟩
      exact RR.cf ⟨C', V, g1, g2, g3, g4, g5, g6⟩ a2
  · have e5' : plA C (cJ C) 0 = false := by
      cases hz : plA C (cJ C) 0 with
      | false => rfl
      | true => exact absurd hz e5
    rw [if_neg e5, bxl, boF e5']
    exact refuse
