/-! Questions about the plan. -/
section ASK
variable {fu : Nat} {S SR : Mem} {C : Cf} {V : Rn}
theorem lef_dec (s : Nat → Nat) (c : Nat → Int) (cy : Int) : (if lef s c cy < 0 then (0 : Int32) else 1) = bo (decide (0 ≤ lef s c cy)) := by
  by_cases h : lef s c cy < 0
  · rw [if_pos h, decide_eq_false (by omega)]; rfl
  · rw [if_neg h, decide_eq_true (by omega)]; rfl
theorem m_isPlanned {k : Nat} (hfu : 20 ≤ fu) (h1 : okC C) (h : moC SR C) (hk : k < cJ C) : ∃ SR' : Mem, f_X8_isPlanned fu (i32 (k : Int)) SR = some (bo (decide (0 ≤ lef (cS C k) (cC C k) (cCy C))), SR') ∧ frM k SR SR' ∧ PM SR' k (cS C k) (cC C k) (cF C k) (cCy C) := by
  have hj := h1.2.1
  obtain ⟨SR', he, hf, hs, hp⟩ := m_plans hfu (h.2.1 k hk).1 (h1.2.2.2.2.1 k hk).1
  refine ⟨SR', ?_, hf, hp⟩
  unfold f_X8_isPlanned
  rw [he, b2s, gdt (q_inb (by omega) (by omega) (by omega)), q_nat (by omega) (by omega), show ((k : Int)).toNat = k by omega, hp.1, lef_dec, nb_bo]
theorem k_plan {k : Nat} (h2 : kcC S C) (hk : k < cJ C) : S.1 3 k 10 = bo (decide (0 ≤ lef (cS C k) (cC C k) (cCy C))) := by
  rw [(h2.2.2.1 k hk).2.1.2.1, lef_dec]
theorem s_checkPlan {k : Nat} (h2 : kcC S C) (hk : k < cJ C) : fx_X7_checkPlan fu k S = if 0 ≤ lef (cS C k) (cC C k) (cCy C) then some (.inr ()) else some (.inl 2) := by
  unfold fx_X7_checkPlan
  rw [k_plan h2 hk]
  by_cases e : 0 ≤ lef (cS C k) (cC C k) (cCy C)
  · rw [decide_eq_true e, boT rfl, if_pos e]
  · rw [decide_eq_false e, boF rfl, if_neg e]
theorem s_checkMovement {a : Int} (ha : -2147483648 ≤ a ∧ a < 2147483648) : fx_X7_checkMovement fu (i32 a) S = if 0 ≤ a ∧ a < 4 then some (.inr ()) else some (.inl 3) := by
  unfold fx_X7_checkMovement fx_X7_checkMovement_9
  rw [q_0, q_4]
  by_cases h1 : a < 0
  · rw [ltT h1 (by omega) (by omega), if_neg (by omega)]
  · rw [ltF (by omega) (by omega) (by omega)]
    by_cases h2 : a < 4
    · rw [ltT h2 (by omega) (by omega), if_pos (by omega)]
    · rw [ltF (by omega) (by omega) (by omega), if_neg (by omega)]
theorem s_checkPhase {k : Nat} {a : Int} (h2 : kcC S C) (hk : k < cJ C) (ha : -2147483648 ≤ a ∧ a < 2147483648) : fx_X7_checkPhase fu k (i32 a) S = if 0 ≤ a ∧ a < mny (cS C k) then some (.inr ()) else some (.inl 3) := by
  have hm := mny_le (cS C k)
  unfold fx_X7_checkPhase fx_X7_checkPhase_12
  rw [q_0, (h2.2.2.1 k hk).1.1]
  by_cases h1 : a < 0
  · rw [ltT h1 (by omega) (by omega), if_neg (by omega)]
  · rw [ltF (by omega) (by omega) (by omega)]
    by_cases h2 : a < mny (cS C k)
    · rw [ltT h2 (by omega) (by omega), if_pos (by omega)]
    · rw [ltF (by omega) (by omega) (by omega), if_neg (by omega)]
theorem m_isPhase {k : Nat} {a : Int} (h1 : okC C) (h3 : moC SR C) (hk : k < cJ C) (ha : -2147483648 ≤ a ∧ a < 2147483648) : f_X8_isPhase fu (i32 (k : Int)) (i32 a) SR = some (bo (decide (0 ≤ a ∧ a < mny (cS C k)))) := by
  have hj := h1.2.1
  have hm := mny_le (cS C k)
  unfold f_X8_isPhase f_X8_isPhase_28 f_X8_isPhase_29
  rw [m_isJ ⟨h1.1, h1.2.1⟩ h3.1 (by omega), b1s, boT (decide_eq_true (by omega)), gdt (q_inb (by omega) (by omega) (by omega)), q_nat (by omega) (by omega), show ((k : Int)).toNat = k by omega, (h3.2.1 k hk).1.2.1, q_1, q_sub, show (0 : Int32) = i32 0 from rfl, s_in (by omega) (by omega) (by omega) (by omega) (by omega) (by omega), b1s]
  by_cases e : 0 ≤ a ∧ a < mny (cS C k)
  · rw [decide_eq_true (by omega), decide_eq_true e, if_neg (by decide +kernel), ← q_1, nb_1]; rfl
  · rw [decide_eq_false (by omega), decide_eq_false e, if_pos (by decide +kernel), ← q_0, nb_0]; rfl
theorem m_isPhaseF {a b : Int} (h1 : okC C) (h3 : moC SR C) (hk : ¬ (0 ≤ a ∧ a < cJ C)) (ha : -2147483648 ≤ a ∧ a < 2147483648) : f_X8_isPhase fu (i32 a) (i32 b) SR = some (bo false) := by
  unfold f_X8_isPhase f_X8_isPhase_28 f_X8_isPhase_29
  rw [m_isJ ⟨h1.1, h1.2.1⟩ h3.1 ha, b1s, boF (decide_eq_false hk), nb_0]
  rfl
end ASK
theorem sim_hasPlan (fu : Nat) (hfu : 20 ≤ fu) : Sim_hasPlan fu RR := by
  intro S SR x h
  have h' := h
  obtain ⟨C, V, h1, h2, h3, h4, h5, h6⟩ := h'
  have hx := q_rng x
  rw [← q_self x]
  generalize x.toInt = a at *
  have hj : 2 ≤ cJ C ∧ cJ C ≤ 5 := ⟨h1.1, h1.2.1⟩
  unfold fx_X7_hasPlan f_X8_hasPlan f_X8_hasPlan_14 f_X8_hasPlan_32 f_X8_hasPlan_33
  rw [s_at hj.2 h2.1 hx, m_isJ hj h3.1 hx, b1s]
  by_cases e : 0 ≤ a ∧ a < cJ C
  · obtain ⟨k, rfl⟩ : ∃ k : Nat, a = (k : Int) := ⟨a.toNat, by omega⟩
    obtain ⟨SR', he, hf, hp⟩ := m_isPlanned (fu := fu) hfu h1 (h3.mf (moF.th (v := 0))) (k := k) (by omega)
    rw [if_pos e, bxr, decide_eq_true e, boT rfl, m_holds0, b2s, if_neg (by decide +kernel), he, b2s, show ((k : Int)).toNat = k by omega, k_plan h2 (by omega), nb_bo]
    have hth : SR'.1 8 0 0 = 0 := (hf.1 8 0 0 (by omega)).trans w_eq
    by_cases e2 : 0 ≤ lef (cS C k) (cC C k) (cCy C)
    · rw [decide_eq_true e2, boT rfl, nb_1]
      exact ⟨_, _, _, 0, rfl, rfl, rfl, hth, (fun v hv => by cases hv; rfl), h.mf (moF.th.trans (moF.pl hf))⟩
    · rw [decide_eq_false e2, boF rfl, nb_0]
      exact ⟨_, _, _, 0, rfl, rfl, rfl, hth, (fun v hv => by cases hv; rfl), h.mf (moF.th.trans (moF.pl hf))⟩
  · rw [if_neg e, bxl, decide_eq_false e, boF rfl, m_holdsN (by decide +kernel), b2s, if_pos rfl, nb_0]
    exact ⟨_, _, _, 1, rfl, rfl, rfl, w_eq, (fun v hv => by cases hv), h.mf moF.th⟩
theorem sim_green (fu : Nat) (hfu : 20 ≤ fu) : Sim_green fu RR := by
  intro S SR x y h
  have h' := h
  obtain ⟨C, V, h1, h2, h3, h4, h5, h6⟩ := h'
  have hx := q_rng x
  have hy := q_rng y
  rw [← q_self x, ← q_self y]
  generalize x.toInt = a at *
  generalize y.toInt = b at *
  have hj : 2 ≤ cJ C ∧ cJ C ≤ 5 := ⟨h1.1, h1.2.1⟩
  unfold fx_X7_green f_X8_green f_X8_green_27 f_X8_green_47
  rw [s_at hj.2 h2.1 hx]
  by_cases e : 0 ≤ a ∧ a < cJ C
  · obtain ⟨k, rfl⟩ : ∃ k : Nat, a = (k : Int) := ⟨a.toNat, by omega⟩
    have hm := mny_le (cS C k)
    rw [if_pos e, bxr, show ((k : Int)).toNat = k by omega, s_checkPhase h2 (by omega) hy, m_isPhase h1 h3 (by omega) hy, b1s]
    by_cases e1 : 0 ≤ b ∧ b < mny (cS C k)
    · obtain ⟨p, rfl⟩ : ∃ p : Nat, b = (p : Int) := ⟨b.toNat, by omega⟩
      obtain ⟨SR', he, hf, hp⟩ := m_isPlanned (fu := fu) hfu h1 h3 (k := k) (by omega)
      rw [if_pos e1, bxr, boT (decide_eq_true e1), he, b2s, s_checkPlan h2 (by omega)]
      by_cases e2 : 0 ≤ lef (cS C k) (cC C k) (cCy C)
      · rw [if_pos e2, bxr, boT (decide_eq_true e2), m_holds0, b2s, if_neg (by decide +kernel), q_4, q_mul, q_add, gdt (q_inb (by omega) (by omega) (by omega)), q_nat (by omega) (by omega), show (4 * (k : Int) + (p : Int)).toNat = 4 * k + p by omega, s_read (by omega) (by omega) (by omega), b1s, show ((p : Int)).toNat = p by omega, w_ne (by omega), (hp.2 p (by omega)).2, ((h2.2.2.1 k (by omega)).2.1.2.2 e2).1 p (by omega)]
        exact ⟨_, _, _, 0, rfl, rfl, rfl, w_eq, (fun v hv => by cases hv; rfl), h.mf ((moF.pl hf).trans moF.th)⟩
      · rw [if_neg e2, bxl, boF (decide_eq_false e2), m_holdsN (by decide +kernel), b2s, if_pos rfl]
        exact ⟨_, _, _, 2, rfl, rfl, rfl, w_eq, (fun v hv => by cases hv), h.mf ((moF.pl hf).trans moF.th)⟩
    · rw [if_neg e1, bxl, boF (decide_eq_false e1), m_holdsN (by decide +kernel), b2s, if_pos rfl]
      exact ⟨_, _, _, 1, rfl, rfl, rfl, w_eq, (fun v hv => by cases hv), h.mf moF.th⟩
  · rw [if_neg e, bxl, m_isPhaseF h1 h3 e hx, b1s, boF rfl, m_holdsN (by decide +kernel), b2s, if_pos rfl]
    exact ⟨_, _, _, 1, rfl, rfl, rfl, w_eq, (fun v hv => by cases hv), h.mf moF.th⟩
theorem sim_clearing (fu : Nat) (hfu : 20 ≤ fu) : Sim_clearing fu RR := by
  intro S SR x y h
  have h' := h
  obtain ⟨C, V, h1, h2, h3, h4, h5, h6⟩ := h'
  have hx := q_rng x
  have hy := q_rng y
  rw [← q_self x, ← q_self y]
  generalize x.toInt = a at *
  generalize y.toInt = b at *
  have hj : 2 ≤ cJ C ∧ cJ C ≤ 5 := ⟨h1.1, h1.2.1⟩
  unfold fx_X7_clearing f_X8_clearing f_X8_clearing_15 f_X8_clearing_31
  rw [s_at hj.2 h2.1 hx]
  by_cases e : 0 ≤ a ∧ a < cJ C
  · obtain ⟨k, rfl⟩ : ∃ k : Nat, a = (k : Int) := ⟨a.toNat, by omega⟩
    have hm := mny_le (cS C k)
    rw [if_pos e, bxr, show ((k : Int)).toNat = k by omega, s_checkPhase h2 (by omega) hy, m_isPhase h1 h3 (by omega) hy, b1s]
    by_cases e1 : 0 ≤ b ∧ b < mny (cS C k)
    · obtain ⟨p, rfl⟩ : ∃ p : Nat, b = (p : Int) := ⟨b.toNat, by omega⟩
      have h3' := h3.mf (moF.th (v := 0))
      rw [if_pos e1, bxr, boT (decide_eq_true e1), m_holds0, b2s, if_neg (by decide +kernel), m_clearingOf hfu (h3'.2.1 k (by omega)).1 (h1.2.2.2.2.1 k (by omega)).1 (by omega), b1s, s_read (by omega) (by omega) (by omega), b1s, show ((p : Int)).toNat = p by omega, (h2.2.2.1 k (by omega)).2.1.1 p (by omega)]
      exact ⟨_, _, _, 0, rfl, rfl, rfl, w_eq, (fun v hv => by cases hv; rfl), h.mf moF.th⟩
    · rw [if_neg e1, bxl, boF (decide_eq_false e1), m_holdsN (by decide +kernel), b2s, if_pos rfl]
      exact ⟨_, _, _, 1, rfl, rfl, rfl, w_eq, (fun v hv => by cases hv), h.mf moF.th⟩
  · rw [if_neg e, bxl, m_isPhaseF h1 h3 e hx, b1s, boF rfl, m_holdsN (by decide +kernel), b2s, if_pos rfl]
    exact ⟨_, _, _, 1, rfl, rfl, rfl, w_eq, (fun v hv => by cases hv), h.mf moF.th⟩
