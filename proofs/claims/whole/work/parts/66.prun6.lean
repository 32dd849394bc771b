/-! run: a junction, a second, seconds. -/
section RW
variable {fu : Nat} {S SR : Mem}
/-- from when those that come have come -/
theorem r_rest {C : Cf} {K A M T : Int} {U : Nat → Option Bus} {Q R : Nat → Int} {W : Nat → List Int} {k : Nat} (hfu : 100 ≤ fu) (hk : k < cJ C) (hX : FX C K U S SR) (hD : DY C A M T Q R W S SR) (ho : okD C K A M T Q R W (k + 1) k) : ∃ (S' SR' : Mem) (T' : Int) (Q' R' : Nat → Int) (W' : Nat → List Int), (∀ K2 : Int32 → Mem → Option (Unit × Mem), f_X6_passSecond_60 fu K2 (i32 (k : Int)) k S = K2 (i32 ((k + 1 : Nat) : Int)) S') ∧ (∀ (K68 : Int32 → Int32 → Int32 → Mem → Option (Int32 × Mem)) (x1 x2 x3 : Int32), f_X8_run_95 fu K68 x1 x2 x3 (i32 (k : Int)) SR = K68 x2 x3 (i32 ((k + 1 : Nat) : Int)) SR') ∧ FX C K U S' SR' ∧ DY C A M T' Q' R' W' S' SR' ∧ okD C K A M T' Q' R' W' (k + 1) (k + 1) := by
  have hK : 0 ≤ K ∧ K < 10000 := ⟨ho.1, by have := ho.2.1; omega⟩
  have hRk := ho.2.2.2.2.2.2.2.2.2.1 k hk
  have g1 := s_grow (fu := fu) hfu hk hK hX hRk (hD.2.2.2.2.1 k hk).1
  have g2 := m_grow (fu := fu) hfu hk hK hX hRk (hD.2.2.2.2.1 k hk).2
  have hv := rdy_b (gnw C K U k) hRk
  generalize rdy (gnw C K U k) (R k) = v at *
  obtain ⟨hX1, hD1, ho1⟩ := r_grow (k := k) hv hX hD ho
  obtain ⟨S', SR', T', Q', R', W', r1, r2, r3, r4, r5⟩ := r_leave (fu := fu) hk hX1 hD1 ho1
  have e1 : i32 (k : Int) + 1 = i32 ((k + 1 : Nat) : Int) := by rw [q_1, q_add]; rfl
  refine ⟨S', SR', T', Q', R', W', fun K2 => ?_, fun K68 x1 x2 x3 => ?_, r3, r4, r5⟩
  · unfold f_X6_passSecond_60
    rw [hX.2.2.2.2.2.1, g1, b2s]
    refine (r1 (f_X6_passSecond_96 fu K2 (i32 (k : Int)))).trans ?_
    unfold f_X6_passSecond_96
    rw [e1]
  · unfold f_X8_run_95
    rw [g2, r2, b2s, e1]
theorem r_junc {C : Cf} {K A M T : Int} {U : Nat → Option Bus} {Q R : Nat → Int} {W : Nat → List Int} {k : Nat} (hfu : 100 ≤ fu) (hK : K < 7200) (hk : k < cJ C) (hX : FX C K U S SR) (hD : DY C A M T Q R W S SR) (ho : okD C K A M T Q R W k k) : ∃ (S' SR' : Mem) (A' M' T' : Int) (Q' R' : Nat → Int) (W' : Nat → List Int), (∀ n, f_X6_passSecond_2 fu (n + 1) (i32 (k : Int)) S = f_X6_passSecond_2 fu n (i32 ((k + 1 : Nat) : Int)) S') ∧ (∀ (n : Nat) (K60 : Int32 → Int32 → Mem → Option (Int32 × Mem)) (x1 x2 x3 : Int32), f_X8_run_68 fu K60 x1 (n + 1) x2 x3 (i32 (k : Int)) SR = f_X8_run_68 fu K60 x1 n x2 x3 (i32 ((k + 1 : Nat) : Int)) SR') ∧ FX C K U S' SR' ∧ DY C A' M' T' Q' R' W' S' SR' ∧ okD C K A' M' T' Q' R' W' (k + 1) (k + 1) := by
  have hj : 2 ≤ cJ C ∧ cJ C ≤ 5 := ⟨hX.1.1, hX.1.2.1⟩
  have hO : 0 ≤ K := ho.1
  cases k with
  | zero =>
    obtain ⟨S1, SR1, A', M', Q1, c1, c2, c3, c4, c5⟩ := r_come (fu := fu) hX hD hK ho
    obtain ⟨S', SR', T', Q', R', W', r1, r2, r3, r4, r5⟩ := r_rest (fu := fu) hfu hk c3 c4 c5
    refine ⟨S', SR', A', M', T', Q', R', W', fun n => ?_, fun n K60 x1 x2 x3 => ?_, r3, r4, r5⟩
    · rw [f_X6_passSecond_2, hX.2.2.1.1, leF (by omega) (by omega) (by omega), s_at' hj.2 hX.2.2.1.1 hk, b1s, if_pos (show i32 ((0 : Nat) : Int) = 0 from rfl), c1, b2s]
      exact r1 _
    · rw [f_X8_run_68, hX.2.2.2.1.1, leF (by omega) (by omega) (by omega), if_pos (show i32 ((0 : Nat) : Int) = 0 from rfl), c2, b2s]
      exact r2 _ _ _ _
  | succ k =>
    obtain ⟨SR1, Q1, W1, c2, c3, c4, c5⟩ := r_ld (fu := fu) hfu hk hX hD ho
    obtain ⟨S', SR', T', Q', R', W', r1, r2, r3, r4, r5⟩ := r_rest (fu := fu) hfu hk c3 c4 c5
    have e0 : ¬ i32 ((k + 1 : Nat) : Int) = (0 : Int32) := fun z => by
      have := (q_eq (by omega) (by omega) (by omega) (by omega)).mp (z.trans q_0)
      omega
    have e1 : i32 ((k + 1 : Nat) : Int) - 1 = i32 (k : Int) := by
      rw [q_1, q_sub]
      congr 1
      omega
    refine ⟨S', SR', A, M, T', Q', R', W', fun n => ?_, fun n K60 x1 x2 x3 => ?_, r3, r4, r5⟩
    · rw [f_X6_passSecond_2, hX.2.2.1.1, leF (by omega) (by omega) (by omega), s_at' hj.2 hX.2.2.1.1 hk, b1s, if_neg e0, e1, s_linkFrom' hj hX.2.2.1.1 hk, b1s, hX.2.2.2.2.2.1, s_land ⟨hO, by omega⟩, b2s]
      exact r1 _
    · rw [f_X8_run_68, hX.2.2.2.1.1, leF (by omega) (by omega) (by omega), if_neg e0, c2, b2s]
      exact r2 _ _ _ _
theorem r_loop {C : Cf} {K : Int} {U : Nat → Option Bus} (hfu : 100 ≤ fu) (hK : K < 7200) : ∀ (d k : Nat) (A M T : Int) (Q R : Nat → Int) (W : Nat → List Int) (S SR : Mem), k + d = cJ C → FX C K U S SR → DY C A M T Q R W S SR → okD C K A M T Q R W k k → ∃ (S' SR' : Mem) (A' M' T' : Int) (Q' R' : Nat → Int) (W' : Nat → List Int), (∀ n, f_X6_passSecond_2 fu (n + d) (i32 (k : Int)) S = f_X6_passSecond_2 fu n (i32 (cJ C : Int)) S') ∧ (∀ (n : Nat) (K60 : Int32 → Int32 → Mem → Option (Int32 × Mem)) (x1 x2 x3 : Int32), f_X8_run_68 fu K60 x1 (n + d) x2 x3 (i32 (k : Int)) SR = f_X8_run_68 fu K60 x1 n x2 x3 (i32 (cJ C : Int)) SR') ∧ FX C K U S' SR' ∧ DY C A' M' T' Q' R' W' S' SR' ∧ okD C K A' M' T' Q' R' W' (cJ C) (cJ C) := by
  intro d
  induction d with
  | zero =>
    intro k A M T Q R W S SR hk hX hD ho
    obtain rfl : k = cJ C := by omega
    exact ⟨S, SR, A, M, T, Q, R, W, fun n => rfl, fun n K60 x1 x2 x3 => rfl, hX, hD, ho⟩
  | succ d ih =>
    intro k A M T Q R W S SR hk hX hD ho
    obtain ⟨S1, SR1, A1, M1, T1, Q1, R1, W1, j1, j2, j3, j4, j5⟩ := r_junc (fu := fu) hfu hK (k := k) (by omega) hX hD ho
    obtain ⟨S', SR', A', M', T', Q', R', W', r1, r2, r3, r4, r5⟩ := ih (k + 1) A1 M1 T1 Q1 R1 W1 S1 SR1 (by omega) j3 j4 j5
    exact ⟨S', SR', A', M', T', Q', R', W', fun n => (j1 (n + d)).trans (r1 n), fun n K60 x1 x2 x3 => (j2 (n + d) K60 x1 x2 x3).trans (r2 n K60 x1 x2 x3), r3, r4, r5⟩
theorem okD.tick {C : Cf} {K A M T : Int} {Q R : Nat → Int} {W : Nat → List Int} (hj : 2 ≤ cJ C) (hK : K < 7200) (ho : okD C K A M T Q R W (cJ C) (cJ C)) : okD C (K + 1) A M T Q R W 0 0 := by
  obtain ⟨o1, o2, o3, o4, o5, o6, o7, o8, o9, o10, o11, o12⟩ := ho
  rw [if_pos (by omega)] at o6
  rw [if_pos rfl] at o8
  refine ⟨by omega, by omega, o3, o4, o5, ?_, o7, ?_, o9, o10, o11, fun j h => ?_⟩
  · rw [if_neg (by omega)]; omega
  · rw [if_neg (by omega)]; omega
  · obtain ⟨z1, z2, z3⟩ := o12 j h
    refine ⟨z1, fun e he => ?_, z3⟩
    have := z2 e he
    rw [if_pos (by omega), if_pos (by omega)] at this
    rw [if_neg (by omega), if_neg (by omega)]
    omega
theorem r_second {C : Cf} {K A M T : Int} {U : Nat → Option Bus} {Q R : Nat → Int} {W : Nat → List Int} (hfu : 100 ≤ fu) (hK : K < 7200) (hX : FX C K U S SR) (hD : DY C A M T Q R W S SR) (ho : okD C K A M T Q R W 0 0) : ∃ (S' SR' : Mem) (A' M' T' : Int) (Q' R' : Nat → Int) (W' : Nat → List Int), f_X6_passSecond fu S = some ((), S') ∧ (∀ (K60 : Int32 → Int32 → Mem → Option (Int32 × Mem)) (x1 x2 x3 : Int32), f_X8_run_68 fu K60 x1 fu x2 x3 0 SR = K60 x2 (x3 + 1) SR') ∧ FX C (K + 1) U S' SR' ∧ DY C A' M' T' Q' R' W' S' SR' ∧ okD C (K + 1) A' M' T' Q' R' W' 0 0 := by
  have hj : 2 ≤ cJ C ∧ cJ C ≤ 5 := ⟨hX.1.1, hX.1.2.1⟩
  obtain ⟨S1, SR1, A', M', T', Q', R', W', r1, r2, r3, r4, r5⟩ := r_loop (fu := fu) hfu hK (cJ C) 0 A M T Q R W S SR (by omega) hX hD ho
  obtain ⟨n, hn⟩ : ∃ n, fu = n + 1 + cJ C := ⟨fu - 1 - cJ C, by omega⟩
  have r1' := r1 (n + 1)
  have r2' := r2 (n + 1)
  rw [← hn] at r1'
  rw [← hn] at r2'
  obtain ⟨d1, d2, d3, d4, d5, d6⟩ := r4
  refine ⟨wI S1 6 0 1 (i32 (K + 1)), wI SR1 8 0 14 (i32 (K + 1)), A', M', T', Q', R', W', ?_, fun K60 x1 x2 x3 => ?_, r3.tk (fun a b i q1 q2 q3 q4 => w_ne (by omega)) (fun a i q1 q2 => w_ne (by omega)) (by omega) w_eq w_eq (w_ne (by omega)), ⟨⟨(w_ne (by omega)).trans d1.1, (w_ne (by omega)).trans d1.2⟩, ⟨(w_ne (by omega)).trans d2.1, (w_ne (by omega)).trans d2.2⟩, ⟨(w_ne (by omega)).trans d3.1, (w_ne (by omega)).trans d3.2⟩, fun j h => ⟨(w_ne (by omega)).trans (d4 j h).1, (w_ne (by omega)).trans (d4 j h).2⟩, fun j h => ⟨(w_ne (by omega)).trans (d5 j h).1, (w_ne (by omega)).trans (d5 j h).2⟩, fun j h => ⟨(w_ne (by omega)).trans (d6 j h).1, fun r hr => (w_ne (by omega)).trans ((d6 j h).2.1 r hr), (w_ne (by omega)).trans (d6 j h).2.2.1, fun i hi => (w_ne (by omega)).trans ((d6 j h).2.2.2 i hi)⟩⟩, r5.tick hj.1 hK⟩
  · unfold f_X6_passSecond
    refine r1'.trans ?_
    rw [f_X6_passSecond_2, r3.2.2.1.1, leT (by omega) (by omega) (by omega), r3.2.2.2.2.2.1, q_1, q_add]
  · refine (r2' K60 x1 x2 x3).trans ?_
    rw [f_X8_run_68, r3.2.2.2.1.1, leT (by omega) (by omega) (by omega), r3.2.2.2.2.2.2.1, q_1, q_add]
theorem r_secs {C : Cf} {U : Nat → Option Bus} {x : Nat} {v : Int32} (hfu : 700 ≤ fu) (hx : x ≤ 600) : ∀ (d y n m : Nat) (K A M T : Int) (Q R : Nat → Int) (W : Nat → List Int) (S SR : Mem), y + d = x → d < n → d < m → K + d ≤ 7200 → FX C K U S SR → DY C A M T Q R W S SR → okD C K A M T Q R W 0 0 → ∃ (S' SR' : Mem) (A' M' T' : Int) (Q' R' : Nat → Int) (W' : Nat → List Int), f_X6_pass_12 fu (i32 (x : Int)) n v (i32 (y : Int)) S = some (S'.1 6 0 4 - v, S') ∧ f_X8_run_60 fu (i32 (x : Int)) m v (i32 (y : Int)) SR = some (SR'.1 8 0 17 - v, SR') ∧ FX C (K + d) U S' SR' ∧ DY C A' M' T' Q' R' W' S' SR' ∧ okD C (K + d) A' M' T' Q' R' W' 0 0 := by
  intro d
  induction d with
  | zero =>
    intro y n m K A M T Q R W S SR hy hn hm hK hX hD ho
    obtain ⟨n, rfl⟩ : ∃ n', n = n' + 1 := ⟨n - 1, by omega⟩
    obtain ⟨m, rfl⟩ : ∃ n', m = n' + 1 := ⟨m - 1, by omega⟩
    have e0 : K + ((0 : Nat) : Int) = K := Int.add_zero K
    rw [f_X6_pass_12, f_X8_run_60, leT (by omega) (by omega) (by omega), leT (by omega) (by omega) (by omega), e0]
    exact ⟨S, SR, A, M, T, Q, R, W, rfl, rfl, hX, hD, ho⟩
  | succ d ih =>
    intro y n m K A M T Q R W S SR hy hn hm hK hX hD ho
    obtain ⟨n, rfl⟩ : ∃ n', n = n' + 1 := ⟨n - 1, by omega⟩
    obtain ⟨m, rfl⟩ : ∃ n', m = n' + 1 := ⟨m - 1, by omega⟩
    obtain ⟨S1, SR1, A1, M1, T1, Q1, R1, W1, j1, j2, j3, j4, j5⟩ := r_second (fu := fu) (by omega) (by omega) hX hD ho
    obtain ⟨S', SR', A', M', T', Q', R', W', r1, r2, r3, r4, r5⟩ := ih (y + 1) n m (K + 1) A1 M1 T1 Q1 R1 W1 S1 SR1 (by omega) (by omega) (by omega) (by omega) j3 j4 j5
    have e1 : i32 (y : Int) + 1 = i32 ((y + 1 : Nat) : Int) := by rw [q_1, q_add]; rfl
    have e2 : K + ((d + 1 : Nat) : Int) = K + 1 + (d : Int) := by omega
    rw [f_X6_pass_12, f_X8_run_60, leF (by omega) (by omega) (by omega), leF (by omega) (by omega) (by omega), j1, b2s, j2, e1, e2]
    exact ⟨S', SR', A', M', T', Q', R', W', r1, r2, r3, r4, r5⟩
end RW
theorem sim_run (fu : Nat) (hfu : 700 ≤ fu) : Sim_run fu RR := by
  intro S SR x h
  have h' := h
  obtain ⟨C, V, h1, h2, h3, h4, h5, h6⟩ := h'
  have hx := q_rng x
  rw [← q_self x]
  generalize x.toInt = a at *
  have hj : 2 ≤ cJ C ∧ cJ C ≤ 5 := ⟨h1.1, h1.2.1⟩
  have ein : f_X8_in fu (i32 a) 1 600 SR = some (bo (decide (1 ≤ a ∧ a ≤ 600))) := s_in (b := 1) (c := 600) (by omega) (by omega) (by omega) (by omega) (by omega) (by omega)
  have eout : f_X7_isOutside fu (i32 a) 1 600 S = some (bo (!decide (1 ≤ a ∧ a ≤ 600))) := s_isOutside (b := 1) (c := 600) (by omega) (by omega) (by omega) (by omega) (by omega) (by omega)
  unfold fx_X7_run f_X8_run
  rw [ein, eout, b1s, b1s]
  by_cases e : 1 ≤ a ∧ a ≤ 600
  · obtain ⟨x, rfl⟩ : ∃ x : Nat, a = (x : Int) := ⟨a.toNat, by omega⟩
    obtain ⟨S4, e4, f4, th4, pm4⟩ := m_all (fu := fu) (by omega) h1 h3
    have h6' := h6.mf f4
    rw [decide_eq_true e, boT rfl, Bool.not_true, boF rfl, s_checkPlans (by omega) h1 h2, e4, b2s]
    have refuse : ∃ (z : Nat ⊕ Int32) (S2 : Mem) (y : Int32) (SR2 : Mem) (k_1 : Int32), some ((Sum.inl 2 : Nat ⊕ Int32), S) = some (z, S2) ∧ hc2 1 2 z = some k_1 ∧ f_X8_run_35 fu (i32 (x : Int)) S4 = some (y, SR2) ∧ SR2.1 8 0 0 = k_1 ∧ (∀ (v : Int32), z = Sum.inr v → v = y) ∧ RR S2 SR2 := by
      unfold f_X8_run_35 f_X8_run_40
      rw [m_holdsN (by decide +kernel), b2s, if_pos rfl]
      exact ⟨_, _, 0, _, 2, rfl, rfl, rfl, w_eq, (fun v hv => by cases hv), h.mf (f4.trans moF.th)⟩
    by_cases e5 : plA C (cJ C) 0 = true
    · rw [if_pos e5, bxr, boT e5, h5.1, h6'.1, q_add]
      have hV := h4
      obtain ⟨v1, v2, v3, v4, v5, v6, v7, v8, v9, v10, v11, v12, v13⟩ := hV
      by_cases e6 : vK V + x ≤ 7200
      · have e7200 : (7200 : Int32) = i32 7200 := rfl
        rw [e7200, leT e6 (by omega) (by omega), leT e6 (by omega) (by omega)]
        unfold f_X8_run_40 f_X6_pass
        rw [m_holds0, b2s, if_neg (by decide +kernel)]
        have hX : FX C (vK V) (vU V) (wI S 6 0 5 1) (wI (wI S4 8 0 0 0) 8 0 3 1) := by
          have h3' := h3.mf (f4.trans (moF.th (v := 0)))
          have h6'' := h6.mf (f4.trans (moF.th (v := 0)))
          have pm' : PMA (wI S4 8 0 0 0) C := fun k hk => ⟨(w_ne (by omega)).trans (pm4 k hk).1, fun p hq => ⟨(w_ne (by omega)).trans ((pm4 k hk).2 p hq).1, (w_ne (by omega)).trans ((pm4 k hk).2 p hq).2⟩⟩
          have fr : ∀ a i, ¬ (a = 8 ∧ i = 3) → (wI (wI S4 8 0 0 0) 8 0 3 1).1 a 0 i = (wI S4 8 0 0 0).1 a 0 i := fun a i q => w_ne (by omega)
          refine ⟨h1, fun k hk => plA_all (cJ C) 0 e5 k (by omega) (by omega), h2.st (fun a b i q1 q2 q3 q4 => w_ne (by omega)), ?_, fun k hk => ⟨(fr _ _ (by omega)).trans (pm' k hk).1, fun p hq => ⟨(fr _ _ (by omega)).trans ((pm' k hk).2 p hq).1, (fr _ _ (by omega)).trans ((pm' k hk).2 p hq).2⟩⟩, (w_ne (by omega)).trans h5.1, (fr _ _ (by omega)).trans h6''.1, w_eq, w_eq, (fr _ _ (by omega)).trans w_eq, fun k hk => ⟨(h5.2.2.2.2.2.1 k hk).2.2.st (fun i hi => w_ne (by omega)), (h6''.2.2.2.2.2.1 k hk).2.2.st (fun a ha => fr _ _ (by omega)), v13 k hk⟩⟩
          refine ⟨(fr _ _ (by omega)).trans h3'.1, fun k hk => ?_, fun k hk => ⟨(fr _ _ (by omega)).trans (h3'.2.2 k hk).1, (fr _ _ (by omega)).trans (h3'.2.2 k hk).2⟩⟩
          obtain ⟨⟨a0, a1, a2, a3, a4, a5⟩, j3⟩ := h3'.2.1 k hk
          exact ⟨⟨a0, (fr _ _ (by omega)).trans a1, (fr _ _ (by omega)).trans a2, fun p hq => (fr _ _ (by omega)).trans (a3 p hq), fun p hq => (fr _ _ (by omega)).trans (a4 p hq), fun p hq => (fr _ _ (by omega)).trans (a5 p hq)⟩, (fr _ _ (by omega)).trans j3⟩
        have h6'' := h6.mf (f4.trans (moF.th (v := 0)))
        have hD : DY C (vA V) (vM V) (vT V) (vQ V) (vR V) (vW V) (wI S 6 0 5 1) (wI (wI S4 8 0 0 0) 8 0 3 1) := by
          obtain ⟨g1, g2, g3, g4, g5, g6, g7⟩ := h5
          obtain ⟨m1, m2, m3, m4, m5, m6, m7⟩ := h6''
          exact ⟨⟨(w_ne (by omega)).trans g2, (w_ne (by omega)).trans m2⟩, ⟨(w_ne (by omega)).trans g3, (w_ne (by omega)).trans m3⟩, ⟨(w_ne (by omega)).trans g4, (w_ne (by omega)).trans m4⟩, fun j h => ⟨(w_ne (by omega)).trans (g6 j h).1, (w_ne (by omega)).trans (m6 j h).1⟩, fun j h => ⟨(w_ne (by omega)).trans (g6 j h).2.1, (w_ne (by omega)).trans (m6 j h).2.1⟩, fun j h => ⟨(w_ne (by omega)).trans (g7 j h).1, fun r hr => (w_ne (by omega)).trans ((g7 j h).2 r hr), (w_ne (by omega)).trans (m7 j h).1, fun i hi => (w_ne (by omega)).trans ((m7 j h).2 i hi)⟩⟩
        have ho : okD C (vK V) (vA V) (vM V) (vT V) (vQ V) (vR V) (vW V) 0 0 := by
          refine ⟨v1, v2, v3, v4, v5, ?_, v7, ?_, fun k hk => ⟨(v9 k hk).1, (v9 k hk).2.1⟩, fun k hk => (v9 k hk).2.2, v10, fun k hk => ⟨(v11 k hk).1, fun e he => ?_, (v11 k hk).2.2⟩⟩
          · rw [if_neg (by omega)]; omega
          · rw [if_neg (by omega)]; omega
          · have := (v11 k hk).2.1 e he
            rw [if_neg (by omega), if_neg (by omega)]
            omega
        obtain ⟨S', SR', A', M', T', Q', R', W', r1, r2, r3, r4, r5⟩ := r_secs (fu := fu) (x := x) (v := i32 (vT V)) hfu (by omega) x 0 fu fu (vK V) _ _ _ _ _ _ _ _ (by omega) (by omega) (by omega) e6 hX hD ho
        have r1' : f_X6_pass_12 fu (i32 (x : Int)) fu (i32 (vT V)) 0 (wI S 6 0 5 1) = _ := r1
        have r2' : f_X8_run_60 fu (i32 (x : Int)) fu (i32 (vT V)) 0 (wI (wI S4 8 0 0 0) 8 0 3 1) = _ := r2
        obtain ⟨d1, d2, d3, d4, d5, d6⟩ := r4
        obtain ⟨o1, o2, o3, o4, o5, o6, o7, o8, o9, o10, o11, o12⟩ := r5
        obtain ⟨x1, x2, x3, x4, x5, x6, x7, x8, x9, x10, x11⟩ := r3
        have e17 : (wI (wI S4 8 0 0 0) 8 0 3 1).1 8 0 17 = i32 (vT V) := (w_ne (by omega)).trans h6''.2.2.2.1
        rw [h5.2.2.2.1, e17, r1', r2', b2s]
        rw [if_neg (by omega)] at o6 o8
        refine ⟨_, _, _, _, 0, rfl, rfl, rfl, x10, (fun v hv => by cases hv; rw [d3.1, d3.2]), C, (true, vK V + x, A', M', T', Q', R', W', vU V), x1, x3, x4, ?_, ?_, ?_⟩
        · refine ⟨o1, o2, o3, o4, o5, (show M' ≤ vK V + x by omega), o7, (show T' ≤ vK V + x by omega), fun k hk => ⟨(o9 k hk).1, (o9 k hk).2, o10 k hk⟩, o11, fun k hk => ⟨(o12 k hk).1, fun e he => ?_, (o12 k hk).2.2⟩, (fun hb => by cases hb), fun k hk => (x11 k hk).2.2⟩
          have := (o12 k hk).2.1 e he
          rw [if_neg (by omega), if_neg (by omega)] at this
          show vK V + x ≤ e ∧ e < vK V + x + cLs C k
          omega
        · exact ⟨x6, d1.1, d2.1, d3.1, x8, fun k hk => ⟨(d4 k hk).1, (d5 k hk).1, (x11 k hk).1⟩, fun k hk => ⟨(d6 k hk).1, (d6 k hk).2.1⟩⟩
        · exact ⟨x7, d1.2, d2.2, d3.2, x9, fun k hk => ⟨(d4 k hk).2, (d5 k hk).2, (x11 k hk).2.1⟩, fun k hk => (d6 k hk).2.2⟩
      · have e7200 : (7200 : Int32) = i32 7200 := rfl
        rw [e7200, leF (by omega) (by omega) (by omega), leF (by omega) (by omega) (by omega)]
        exact refuse
    · have e5' : plA C (cJ C) 0 = false := by
        cases hz : plA C (cJ C) 0 with
        | false => rfl
        | true => exact absurd hz e5
      rw [if_neg e5, bxl, boF e5']
      exact refuse
  · unfold f_X8_run_40
    rw [decide_eq_false e, boF rfl, Bool.not_false, boT rfl, m_holdsN (by decide +kernel), b2s, if_pos rfl]
    exact ⟨_, _, _, _, 1, rfl, rfl, rfl, w_eq, (fun v hv => by cases hv), h.mf moF.th⟩
