/-! The law's call of a bus, and the second behind it. -/
section CL
variable {fu : Nat} {S S2 : Mem} {C : Cf} {V : Rn}
theorem does5 (x : Int32) (S : Mem) : f_L_does fu 5 x 0 0 0 S = b2 (fx_X7_run fu x S) (fun z S12 => bz z (fun e => if e = 3 then some (-99999, S12) else if e = 1 then some (-99999, S12) else if e = 2 then some (-99999, S12) else none) (fun v => some (v, S12))) := by
  unfold f_L_does f_L_does_129
  rw [if_neg (by decide +kernel), if_neg (by decide +kernel), if_neg (by decide +kernel), if_neg (by decide +kernel), if_neg (by decide +kernel), if_pos rfl]
theorem does6 (x y : Int32) (S : Mem) : f_L_does fu 6 x y 0 0 S = b2 (fx_X7_callBus fu x y S) (fun z S12 => bz z (fun e => if e = 3 then some (-99999, S12) else if e = 1 then some (-99999, S12) else if e = 2 then some (-99999, S12) else none) (fun v => some (v, S12))) := by
  unfold f_L_does f_L_does_129
  rw [if_neg (by decide +kernel), if_neg (by decide +kernel), if_neg (by decide +kernel), if_neg (by decide +kernel), if_neg (by decide +kernel), if_neg (by decide +kernel), if_pos rfl]
theorem does3 (x : Int32) (S : Mem) : f_L_does fu 3 x 0 0 0 S = b2 (fx_X7_setOffset fu x 0 S) (fun z S12 => bz z (fun e => if e = 3 then some (-99999, S12) else if e = 1 then some (-99999, S12) else if e = 2 then some (-99999, S12) else none) (fun v => some (v, S12))) := by
  unfold f_L_does f_L_does_129
  rw [if_neg (by decide +kernel), if_neg (by decide +kernel), if_neg (by decide +kernel), if_pos rfl]
theorem does8 (x y : Int32) (S : Mem) : f_L_does fu 8 x y 0 0 S = b2 (fx_L_begin fu x y S) (fun z S12 => bz z (fun e => if e = 3 then some (-99999, S12) else if e = 1 then some (-99999, S12) else if e = 2 then some (-99999, S12) else none) (fun v => some (v, S12))) := by
  unfold f_L_does f_L_does_129
  rw [if_neg (by decide +kernel), if_neg (by decide +kernel), if_neg (by decide +kernel), if_neg (by decide +kernel), if_neg (by decide +kernel), if_neg (by decide +kernel), if_neg (by decide +kernel), if_neg (by decide +kernel)]
theorem n_99 : (-99999 : Int32) = i32 (-99999) := by decide +kernel
/-- two of a kind, and an answer of 1 -/
def AN1 (o : Option (Int32 × Mem × Mem)) : Prop := ∃ (C' : Cf) (V' : Rn) (S' S2' : Mem), OK C' V' ∧ KS S' C' V' ∧ KS S2' C' V' ∧ o = some (1, S', S2')
theorem c_96 (hfu : 700 ≤ fu) (h : OK C V) (hS : KS S C V) (hT : KS S2 C V) (x2 x3 : Int32) : AN1 (f_L_isCalledSo_96 fu x2 x3 1 S S2) := by
  have hK : 0 ≤ vK V ∧ vK V ≤ 7200 := ⟨h.2.1.1, h.2.1.2.1⟩
  unfold f_L_isCalledSo_96 f_L_isCalledSo_175 f_L_isCalledSo_180
  rw [a_clock hS, b1s]
  rcases k_noRun hfu h 1 with ⟨n, hn, hb, pl, hk⟩ | ⟨e, he, ht⟩
  · have hn1 : n = 1 := by
      have := (q_eq (by omega) (by omega) (by omega) (by omega)).mp (q_1.symm.trans hn)
      omega
    obtain ⟨V', g1, g2, g3, g4⟩ := k_run hfu h (x := 1) (by omega) pl (by omega)
    obtain ⟨S', s1, s2⟩ := g4 S hS
    obtain ⟨T', t1, t2⟩ := g4 S2 hT
    have s1' : fx_X7_run fu 1 S = some (.inr (i32 (vT V' - vT V)), S') := s1
    have t1' : fx_X7_run fu 1 S2 = some (.inr (i32 (vT V' - vT V)), T') := t1
    have gg : vK V' = vK V + 1 := g2
    have gh : vT V ≤ vT V' ∧ vT V' ≤ vT V + 1 := g3
    refine ⟨C, V', S', T', g1, s2, t2, ?_⟩
    rw [does5, s1', b2s, bzr, b2s, if_neg (by decide +kernel), does5, t1', b2s, bzr, b2s, if_pos rfl, n_99, eqF (by omega) (by omega) (by omega) (by omega) (by omega), q_0, ltF (by omega) (by omega) (by omega), q_1, ltF (by omega) (by omega) (by omega), a_clock s2, b1s, q_add, gg, if_pos rfl, ← q_1, nb_1]
  · refine ⟨C, V, S, S2, h, hS, hT, ?_⟩
    rw [does5, ht S hS, b2s, bzl, hnd he, b2s, if_neg (by decide +kernel), does5, ht S2 hT, b2s, bzl, hnd he, b2s, if_pos rfl, if_pos rfl, a_clock hS, b1s, if_pos rfl, nb_1]
theorem g_called (hfu : 700 ≤ fu) (h : OK C V) (hS : KS S C V) (hT : KS S2 C V) {k m : Nat} (hk : k < cJ C) : AN1 (f_L_isCalledSo fu (i32 (k : Int)) (i32 (m : Int)) S S2) := by
  unfold f_L_isCalledSo f_L_isCalledSo_91
  rw [g_phaseNow (by omega) h hS hk, b1s]
  rcases k_noBus (fu := fu) (by omega) h (i32 (k : Int)) (i32 (m : Int)) with ⟨k', m', q, ek, em, hB⟩ | ⟨e, he, ht⟩
  · have hj := h.j
    have hkk := hB.1
    have hkq : k = k' := by
      have := (q_eq (by omega) (by omega) (by omega) (by omega)).mp ek
      omega
    subst hkq
    obtain ⟨S', s1, s2⟩ := k_callBus (fu := fu) (by omega) h hB hS
    obtain ⟨T', t1, t2⟩ := k_callBus (fu := fu) (by omega) h hB hT
    have hn := hB.n h
    have ho := OK_bus h hB
    obtain ⟨h0, -⟩ := hB.in h
    obtain ⟨e, he, ht⟩ := bus_again (fu := fu) (by omega) h hB
    obtain ⟨e', he', ht'⟩ := busy_offset (fu := fu) ho rfl (i32 (k : Int)) 0
    have gp := g_phaseNow (fu := fu) (by omega) ho s2 hk
    rw [bus_phase h hB] at gp
    rw [em, does6, s1, b2s, bzr, b2s, does6, t1, b2s, bzr, b2s, if_pos rfl, n_99, eqF (by omega) (by omega) (by omega) (by omega) (by omega), q_0, ltF (by omega) (by omega) (by omega), show (5 : Int32) = i32 5 from rfl, ltF (by omega) (by omega) (by omega), gp, b1s, if_pos rfl, ← q_0, does6, ht S' s2, b2s, bzl, hnd he, b2s, ← n_99, if_pos rfl, does3, ht' S' s2, b2s, bzl, hnd he', b2s, if_pos rfl]
    exact c_96 hfu ho s2 t2 _ _
  · rw [does6, ht S hS, b2s, bzl, hnd he, b2s, does6, ht S2 hT, b2s, bzl, hnd he, b2s, if_pos rfl, if_pos rfl]
    exact c_96 hfu h hS hT _ _
end CL
