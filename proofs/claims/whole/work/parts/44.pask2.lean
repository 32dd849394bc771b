/-! isGreen, phaseNow, breaches, held. -/
theorem sim_breaches (fu : Nat) (hfu : 100 ≤ fu) : Sim_breaches fu RR := by
  intro S SR x h
  have h' := h
  obtain ⟨C, V, h1, h2, h3, h4, h5, h6⟩ := h'
  have hx := q_rng x
  rw [← q_self x]
  generalize x.toInt = a at *
  have hj : 2 ≤ cJ C ∧ cJ C ≤ 5 := ⟨h1.1, h1.2.1⟩
  unfold fx_X7_breaches f_X8_breaches f_X8_breaches_26
  rw [s_at hj.2 h2.1 hx, m_isJ hj h3.1 hx, b1s]
  by_cases e : 0 ≤ a ∧ a < cJ C
  · obtain ⟨k, rfl⟩ : ∃ k : Nat, a = (k : Int) := ⟨a.toNat, by omega⟩
    have hk : k < cJ C := by omega
    obtain ⟨hoJ, hoo⟩ := h1.2.2.2.2.1 k hk
    have hcy := hoJ.2.2.2
    obtain ⟨SR', he, hf, hp⟩ := m_isPlanned (fu := fu) (by omega) h1 h3 (k := k) hk
    rw [if_pos e, bxr, boT (decide_eq_true e), he, b2s, show ((k : Int)).toNat = k by omega, s_checkPlan h2 hk]
    by_cases e2 : 0 ≤ lef (cS C k) (cC C k) (cCy C)
    · have h3' := (h3.mf (moF.pl hf)).mf (moF.th (v := 0))
      have hp' : PM (wI SR' 8 0 0 0) k (cS C k) (cC C k) (cF C k) (cCy C) := ⟨(w_ne (by omega)).trans hp.1, fun p hq => ⟨(w_ne (by omega)).trans (hp.2 p hq).1, (w_ne (by omega)).trans (hp.2 p hq).2⟩⟩
      rw [if_pos e2, bxr, boT (decide_eq_true e2), m_holds0, b2s, if_neg (by decide +kernel)]
      have hm := m_bs38 (fu := fu) (by omega) hoJ e2 (h3'.2.1 k hk).1 hp' (h3'.2.1 k hk).2 hoo (cCy C).toNat 0 fu 0 (by omega) (by omega) (by omega) (by omega)
      have hs := s_cb4 (fu := fu) (by omega) hoJ e2 (h2.2.2.1 k hk).1 (h2.2.2.1 k hk).2.1 (h2.2.2.1 k hk).2.2 hoo (cCy C).toNat 0 fu 0 (by omega) (by omega) (by omega) (by omega)
      unfold f_X3_countBreaches
      have hs' : f_X3_countBreaches_4 fu k S fu 0 0 = _ := hs
      have hm' : f_X8_breaches_38 fu (i32 (k : Int)) fu 0 0 (wI SR' 8 0 0 0) = _ := hm
      rw [hs', hm', b1s]
      exact ⟨_, _, _, 0, rfl, rfl, rfl, w_eq, (fun v hv => by cases hv; rfl), h.mf ((moF.pl hf).trans moF.th)⟩
    · rw [if_neg e2, bxl, boF (decide_eq_false e2), m_holdsN (by decide +kernel), b2s, if_pos rfl]
      exact ⟨_, _, _, 2, rfl, rfl, rfl, w_eq, (fun v hv => by cases hv), h.mf ((moF.pl hf).trans moF.th)⟩
  · rw [if_neg e, bxl, boF (decide_eq_false e), m_holdsN (by decide +kernel), b2s, if_pos rfl]
    exact ⟨_, _, _, 1, rfl, rfl, rfl, w_eq, (fun v hv => by cases hv), h.mf moF.th⟩
theorem sim_phaseNow (fu : Nat) (hfu : 100 ≤ fu) : Sim_phaseNow fu RR := by
  intro S SR x h
  have h' := h
  obtain ⟨C, V, h1, h2, h3, h4, h5, h6⟩ := h'
  have hx := q_rng x
  rw [← q_self x]
  generalize x.toInt = a at *
  have hj : 2 ≤ cJ C ∧ cJ C ≤ 5 := ⟨h1.1, h1.2.1⟩
  unfold fx_X7_phaseNow f_X8_phaseNow f_X8_phaseNow_26 f_X8_phaseNow_46
  rw [s_at hj.2 h2.1 hx, m_isJ hj h3.1 hx, b1s]
  by_cases e : 0 ≤ a ∧ a < cJ C
  · obtain ⟨k, rfl⟩ : ∃ k : Nat, a = (k : Int) := ⟨a.toNat, by omega⟩
    have hk : k < cJ C := by omega
    obtain ⟨hoJ, hoo⟩ := h1.2.2.2.2.1 k hk
    have hu : okU (cS C k) (cC C k) (cF C k) (cCy C) (cO C k) (vK V) (vU V k) := h4.2.2.2.2.2.2.2.2.2.2.2.2 k hk
    have hK : 0 ≤ vK V ∧ vK V < 1000000 := ⟨h4.1, by have := h4.2.1; omega⟩
    obtain ⟨SR', he, hf, hp⟩ := m_isPlanned (fu := fu) (by omega) h1 h3 (k := k) hk
    rw [if_pos e, bxr, boT (decide_eq_true e), he, b2s, show ((k : Int)).toNat = k by omega, s_checkPlan h2 hk]
    by_cases e2 : 0 ≤ lef (cS C k) (cC C k) (cCy C)
    · have h3' := (h3.mf (moF.pl hf)).mf (moF.th (v := 0))
      have h6' := (h6.mf (moF.pl hf)).mf (moF.th (v := 0))
      have hp' : PM (wI SR' 8 0 0 0) k (cS C k) (cC C k) (cF C k) (cCy C) := ⟨(w_ne (by omega)).trans hp.1, fun p hq => ⟨(w_ne (by omega)).trans (hp.2 p hq).1, (w_ne (by omega)).trans (hp.2 p hq).2⟩⟩
      rw [if_pos e2, bxr, boT (decide_eq_true e2), m_holds0, b2s, if_neg (by decide +kernel), h6'.1, h5.1, m_phaseAt1 (by omega) hoJ e2 (h3'.2.1 k hk).1 hp' (h3'.2.1 k hk).2 hoo hK hu (h6'.2.2.2.2.2.1 k hk).2.2, b1s, s_phaseIn (by omega) hoJ e2 (h2.2.2.1 k hk).1 (h2.2.2.1 k hk).2.1 (h2.2.2.1 k hk).2.2 hoo hK hu (h5.2.2.2.2.2.1 k hk).2.2, b1s]
      exact ⟨_, _, _, 0, rfl, rfl, rfl, w_eq, (fun v hv => by cases hv; rfl), h.mf ((moF.pl hf).trans moF.th)⟩
    · rw [if_neg e2, bxl, boF (decide_eq_false e2), m_holdsN (by decide +kernel), b2s, if_pos rfl]
      exact ⟨_, _, _, 2, rfl, rfl, rfl, w_eq, (fun v hv => by cases hv), h.mf ((moF.pl hf).trans moF.th)⟩
  · rw [if_neg e, bxl, boF (decide_eq_false e), m_holdsN (by decide +kernel), b2s, if_pos rfl]
    exact ⟨_, _, _, 1, rfl, rfl, rfl, w_eq, (fun v hv => by cases hv), h.mf moF.th⟩
theorem sim_isGreen (fu : Nat) (hfu : 100 ≤ fu) : Sim_isGreen fu RR := by
  intro S SR x y w h
  have h' := h
  obtain ⟨C, V, h1, h2, h3, h4, h5, h6⟩ := h'
  have hx := q_rng x
  have hy := q_rng y
  have hw := q_rng w
  rw [← q_self x, ← q_self y, ← q_self w]
  generalize x.toInt = a at *
  generalize y.toInt = b at *
  generalize w.toInt = t at *
  have hj : 2 ≤ cJ C ∧ cJ C ≤ 5 := ⟨h1.1, h1.2.1⟩
  unfold fx_X7_isGreen f_X8_isGreen f_X8_isGreen_20 f_X8_isGreen_59 f_X8_isGreen_19 f_X8_isGreen_20 f_X8_isGreen_59 f_X8_isGreen_80 f_X8_isGreen_81
  rw [s_at hj.2 h2.1 hx, m_isJ hj h3.1 hx, b1s]
  by_cases e : 0 ≤ a ∧ a < cJ C
  · obtain ⟨k, rfl⟩ : ∃ k : Nat, a = (k : Int) := ⟨a.toNat, by omega⟩
    have hk : k < cJ C := by omega
    obtain ⟨hoJ, hoo⟩ := h1.2.2.2.2.1 k hk
    rw [if_pos e, bxr, boT (decide_eq_true e), m_isM hy, b1s, show ((k : Int)).toNat = k by omega, s_checkMovement hy]
    by_cases e1 : 0 ≤ b ∧ b < 4
    · obtain ⟨m, rfl⟩ : ∃ m : Nat, b = (m : Int) := ⟨b.toNat, by omega⟩
      rw [if_pos e1, bxr, boT (decide_eq_true e1), if_neg (by decide +kernel)]
      have ein : f_X8_in fu (i32 t) 0 100000 SR = some (bo (decide (0 ≤ t ∧ t ≤ 100000))) := s_in (b := 0) (c := 100000) (by omega) (by omega) (by omega) (by omega) (by omega) (by omega)
      have eout : f_X7_isOutside fu (i32 t) 0 100000 S = some (bo (!decide (0 ≤ t ∧ t ≤ 100000))) := s_isOutside (b := 0) (c := 100000) (by omega) (by omega) (by omega) (by omega) (by omega) (by omega)
      rw [ein, eout, b1s, b1s]
      by_cases e3 : 0 ≤ t ∧ t ≤ 100000
      · obtain ⟨SR', he, hf, hp⟩ := m_isPlanned (fu := fu) (by omega) h1 h3 (k := k) hk
        rw [decide_eq_true e3, boT rfl, Bool.not_true, boF rfl, he, b2s, s_checkPlan h2 hk]
        by_cases e2 : 0 ≤ lef (cS C k) (cC C k) (cCy C)
        · have h3' := (h3.mf (moF.pl hf)).mf (moF.th (v := 0))
          have hp' : PM (wI SR' 8 0 0 0) k (cS C k) (cC C k) (cF C k) (cCy C) := ⟨(w_ne (by omega)).trans hp.1, fun p hq => ⟨(w_ne (by omega)).trans (hp.2 p hq).1, (w_ne (by omega)).trans (hp.2 p hq).2⟩⟩
          rw [if_pos e2, bxr, boT (decide_eq_true e2), m_holds0, b2s, if_neg (by decide +kernel), m_green0 (by omega) hoJ e2 (h3'.2.1 k hk).1 hp' (h3'.2.1 k hk).2 hoo (by omega) (by omega), b1s, s_isLit hoJ e2 (h2.2.2.1 k hk).1 (h2.2.2.1 k hk).2.1 (h2.2.2.1 k hk).2.2 hoo (by omega) (by omega), b1s, nb_bo]
          cases (lit (cS C k) (cC C k) (cF C k) (cCy C) ((t - cO C k) % cCy C)).testBit m with
          | false =>
            rw [boF rfl, nb_0]
            exact ⟨_, _, _, 0, rfl, rfl, rfl, w_eq, (fun v hv => by cases hv; rfl), h.mf ((moF.pl hf).trans moF.th)⟩
          | true =>
            rw [boT rfl, nb_1]
            exact ⟨_, _, _, 0, rfl, rfl, rfl, w_eq, (fun v hv => by cases hv; rfl), h.mf ((moF.pl hf).trans moF.th)⟩
        · rw [if_neg e2, bxl, boF (decide_eq_false e2), m_holdsN (by decide +kernel), b2s, if_pos rfl]
          exact ⟨_, _, _, 3, rfl, rfl, rfl, w_eq, (fun v hv => by cases hv), h.mf ((moF.pl hf).trans moF.th)⟩
      · rw [decide_eq_false e3, boF rfl, Bool.not_false, boT rfl, m_holdsN (by decide +kernel), b2s, if_pos rfl]
        exact ⟨_, _, _, 2, rfl, rfl, rfl, w_eq, (fun v hv => by cases hv), h.mf moF.th⟩
    · rw [if_neg e1, bxl, boF (decide_eq_false e1), if_pos rfl, m_holdsN (by decide +kernel), b2s, if_pos rfl]
      exact ⟨_, _, _, 1, rfl, rfl, rfl, w_eq, (fun v hv => by cases hv), h.mf moF.th⟩
  · rw [if_neg e, bxl, boF (decide_eq_false e), if_pos rfl, m_holdsN (by decide +kernel), b2s, if_pos rfl]
    exact ⟨_, _, _, 1, rfl, rfl, rfl, w_eq, (fun v hv => by cases hv), h.mf moF.th⟩
section LK
variable {fu : Nat} {S SR : Mem} {C : Cf} {V : Rn}
theorem s_isLast {a : Int} (hj : 2 ≤ cJ C ∧ cJ C ≤ 5) (h : S.1 1 0 1 = i32 (cJ C : Int)) (ha : -2147483648 ≤ a ∧ a < 2147483648) : f_X1_isLast fu (i32 a) S = some (bo (decide (a + 1 = cJ C))) := by
  unfold f_X1_isLast f_X1_isLast_15
  rw [h, q_1, q_sub]
  by_cases e : a = (cJ C : Int) - 1
  · rw [eqT e, decide_eq_true (by omega), ← q_1, nb_1]; rfl
  · rw [eqF e (by omega) (by omega) (by omega) (by omega), decide_eq_false (by omega), nb_0]; rfl
theorem s_linkFrom {a : Int} (hj : 2 ≤ cJ C ∧ cJ C ≤ 5) (h : S.1 1 0 1 = i32 (cJ C : Int)) (ha : -2147483648 ≤ a ∧ a < 2147483648) : fx_X1_linkFrom fu (i32 a) S = if 0 ≤ a ∧ a + 1 < cJ C then some (.inr a.toNat) else some (.inl 3) := by
  unfold fx_X1_linkFrom
  rw [s_at hj.2 h ha]
  by_cases e : 0 ≤ a ∧ a < cJ C
  · rw [if_pos e, bxr, s_isLast hj h ha, b1s]
    by_cases e2 : a + 1 = cJ C
    · rw [boT (decide_eq_true e2), if_neg (by omega)]
    · rw [boF (decide_eq_false e2), if_pos (by omega)]
  · rw [if_neg e, bxl, if_neg (by omega)]
theorem s_linkFrom' {k : Nat} (hj : 2 ≤ cJ C ∧ cJ C ≤ 5) (h : S.1 1 0 1 = i32 (cJ C : Int)) (hk : k + 1 < cJ C) : f_X1_linkFrom fu (i32 (k : Int)) S = some k := by
  unfold f_X1_linkFrom
  rw [s_at' hj.2 h (by omega), b1s, s_isLast hj h (by omega), b1s, boF (decide_eq_false (by omega))]
end LK
theorem sim_held (fu : Nat) : Sim_held fu RR := by
  intro S SR x h
  have h' := h
  obtain ⟨C, V, h1, h2, h3, h4, h5, h6⟩ := h'
  have hx := q_rng x
  rw [← q_self x]
  generalize x.toInt = a at *
  have hj : 2 ≤ cJ C ∧ cJ C ≤ 5 := ⟨h1.1, h1.2.1⟩
  unfold fx_X7_held f_X8_held f_X8_held_14 f_X8_held_29 fx_X1_vehiclesOnLinkFrom
  rw [s_linkFrom hj h2.1 hx, m_isL hj h3.1 hx, b1s]
  by_cases e : 0 ≤ a ∧ a + 1 < cJ C
  · obtain ⟨k, rfl⟩ : ∃ k : Nat, a = (k : Int) := ⟨a.toNat, by omega⟩
    have hk : k + 1 < cJ C := by omega
    rw [if_pos e, bxr, boT (decide_eq_true e), m_holds0, b2s, if_neg (by decide +kernel), q_1, q_add, s_at hj.2 h2.1 (by omega), if_pos (by omega), bxr, bxr, show ((k : Int)).toNat = k by omega, show ((k : Int) + 1).toNat = k + 1 by omega]
    unfold f_X8_heldOf
    rw [gdt (q_inb (by omega) (by omega) (by omega)), q_1, q_add, gdt (q_inb (by omega) (by omega) (by omega)), b1s, q_nat (by omega) (by omega), q_nat (by omega) (by omega), show ((k : Int)).toNat = k by omega, show ((k : Int) + 1).toNat = k + 1 by omega]
    refine ⟨_, _, _, 0, rfl, rfl, rfl, w_eq, (fun v hv => ?_), h.mf moF.th⟩
    cases hv
    rw [w_ne (by omega), w_ne (by omega), (h5.2.2.2.2.2.2 k hk).1, (h5.2.2.2.2.2.1 (k + 1) (by omega)).1, (h6.2.2.2.2.2.2 k hk).1, (h6.2.2.2.2.2.1 (k + 1) (by omega)).1]
  · rw [if_neg e, bxl, bxl, boF (decide_eq_false e), m_holdsN (by decide +kernel), b2s, if_pos rfl]
    exact ⟨_, _, _, 1, rfl, rfl, rfl, w_eq, (fun v hv => by cases hv), h.mf moF.th⟩
