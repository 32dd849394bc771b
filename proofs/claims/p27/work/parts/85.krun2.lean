/-! run, put together. -/
section RU
variable {fu : Nat} {C : Cf} {V : Rn}
theorem tot_eq (J : Nat) (hj : 1 ≤ J) (V : Rn) : vQ V 0 + sms (hld V) (J - 1) = sms (vQ V) J + sms (lenW (vW V)) (J - 1) := by
  obtain ⟨n, rfl⟩ : ∃ n, J = n + 1 := ⟨J - 1, by omega⟩
  have e : sms (hld V) n = sms (lenW (vW V)) n + sms (fun i => vQ V (i + 1)) n := sms_add (lenW (vW V)) (fun i => vQ V (i + 1)) n
  rw [show n + 1 - 1 = n by omega, sms_head, e]
  omega
theorem k_run (hfu : 700 ≤ fu) (h : OK C V) {x : Nat} (hx : 1 ≤ x ∧ x ≤ 600) (e5 : plA C (cJ C) 0 = true) (e6 : vK V + x ≤ 7200) : ∃ V' : Rn, OK C V' ∧ vK V' = vK V + x ∧ (vT V ≤ vT V' ∧ vT V' ≤ vT V + x) ∧ ∀ S, KS S C V → ∃ S', fx_X7_run fu (i32 (x : Int)) S = some (.inr (i32 (vT V' - vT V)), S') ∧ KS S' C V' := by
  have hj := h.j
  obtain ⟨h1, h4, hiv, hnz⟩ := h
  have eout : ∀ S, f_X7_isOutside fu (i32 (x : Int)) 1 600 S = some (bo (!decide (1 ≤ (x : Int) ∧ (x : Int) ≤ 600))) := fun S => s_isOutside (b := 1) (c := 600) (by omega) (by omega) (by omega) (by omega) (by omega) (by omega)
  have hV := h4
  obtain ⟨v1, v2, v3, v4, v5, v6, v7, v8, v9, v10, v11, v12, v13⟩ := hV
  have ho : okD C (vK V) (vA V) (vM V) (vT V) (vQ V) (vR V) (vW V) 0 0 := by
    refine ⟨v1, v2, v3, v4, v5, ?_, v7, ?_, fun k hk => ⟨(v9 k hk).1, (v9 k hk).2.1⟩, fun k hk => (v9 k hk).2.2, v10, fun k hk => ⟨(v11 k hk).1, fun e he => ?_, (v11 k hk).2.2⟩⟩
    · rw [if_neg (by omega)]; omega
    · rw [if_neg (by omega)]; omega
    · have := (v11 k hk).2.1 e he
      rw [if_neg (by omega), if_neg (by omega)]
      omega
  have hB : FB C (vK V) (vU V) := ⟨h1, fun k hk => plA_all (cJ C) 0 e5 k (by omega) (by omega), v13⟩
  have hv : cvD C (vK V) (vA V) (vM V) (vT V) (vQ V) (vW V) 0 := by
    have e := tot_eq (cJ C) (by omega) V
    exact ⟨by have := hiv.1; omega, by rw [if_neg (by omega)]; have := hiv.2; omega⟩
  obtain ⟨A', M', T', Q', R', W', r0, r1, r2, r3, r4⟩ := e_secs (fu := fu) (x := x) (v := i32 (vT V)) hfu (by omega) x 0 fu (vK V) _ _ _ _ _ _ (by omega) (by omega) e6 hB ho hv
  obtain ⟨o1, o2, o3, o4, o5, o6, o7, o8, o9, o10, o11, o12⟩ := r1
  rw [if_neg (by omega)] at o6 o8
  refine ⟨(true, vK V + x, A', M', T', Q', R', W', vU V), ⟨h1, ?_, ?_, hnz⟩, rfl, r3, fun S hS => ?_⟩
  · refine ⟨o1, o2, o3, o4, o5, (show M' ≤ vK V + x by omega), o7, (show T' ≤ vK V + x by omega), fun k hk => ⟨(o9 k hk).1, (o9 k hk).2, o10 k hk⟩, o11, fun k hk => ⟨(o12 k hk).1, fun e he => ?_, (o12 k hk).2.2⟩, (fun hb => by cases hb), r0.2.2⟩
    have := (o12 k hk).2.1 e he
    rw [if_neg (by omega), if_neg (by omega)] at this
    show vK V + x ≤ e ∧ e < vK V + x + cLs C k
    omega
  · have e := tot_eq (cJ C) (by omega) ((true, vK V + x, A', M', T', Q', R', W', vU V) : Rn)
    obtain ⟨w1, w2⟩ := r2
    rw [if_neg (by omega)] at w2
    refine ⟨?_, ?_⟩
    · show M' = T' + vQ ((true, vK V + x, A', M', T', Q', R', W', vU V) : Rn) 0 + sms (hld ((true, vK V + x, A', M', T', Q', R', W', vU V) : Rn)) (cJ C - 1)
      have e9 : sms (vQ ((true, vK V + x, A', M', T', Q', R', W', vU V) : Rn)) (cJ C) + sms (lenW (vW ((true, vK V + x, A', M', T', Q', R', W', vU V) : Rn))) (cJ C - 1) = sms Q' (cJ C) + sms (lenW W') (cJ C - 1) := rfl
      omega
    · show 3600 * M' + A' ≤ 1800 * (vK V + x)
      omega
  · obtain ⟨h2, h5⟩ := hS
    have hK : KR (wI S 6 0 5 1) C (vK V) (vU V) (vA V) (vM V) (vT V) (vQ V) (vR V) (vW V) := by
      obtain ⟨g1, g2, g3, g4, g5, g6, g7⟩ := h5
      exact ⟨⟨h2.st (fun a b i q1 q2 q3 q4 => w_ne (by omega)), (w_ne (by omega)).trans g1, w_eq, fun k hk => (g6 k hk).2.2.st (fun i hi => w_ne (by omega))⟩, (w_ne (by omega)).trans g2, (w_ne (by omega)).trans g3, (w_ne (by omega)).trans g4, fun j h => (w_ne (by omega)).trans (g6 j h).1, fun j h => (w_ne (by omega)).trans (g6 j h).2.1, fun j h => ⟨(w_ne (by omega)).trans (g7 j h).1, fun r hr => (w_ne (by omega)).trans ((g7 j h).2 r hr)⟩⟩
    obtain ⟨S', u1, u2⟩ := r4 _ hK
    have u1' : f_X6_pass_12 fu (i32 (x : Int)) fu (i32 (vT V)) 0 (wI S 6 0 5 1) = _ := u1
    have e7200 : (7200 : Int32) = i32 7200 := rfl
    obtain ⟨⟨x3, x6, x8, x11⟩, d1, d2, d3, d4, d5, d6⟩ := u2
    refine ⟨S', ?_, x3, x6, d1, d2, d3, x8, fun k hk => ⟨d4 k hk, d5 k hk, x11 k hk⟩, fun k hk => d6 k hk⟩
    unfold fx_X7_run f_X6_pass
    rw [eout, b1s, decide_eq_true (show 1 ≤ (x : Int) ∧ (x : Int) ≤ 600 by omega), Bool.not_true, boF rfl, s_checkPlans (by omega) h1 h2, if_pos e5, bxr, h5.1, q_add, e7200, leT e6 (by omega) (by omega), h5.2.2.2.1, u1', b2s, q_sub]
/-- seconds that may not run: refused, and nothing changed -/
theorem k_noRun (hfu : 700 ≤ fu) (h : OK C V) (x : Int32) : (∃ n : Nat, x = i32 (n : Int) ∧ (1 ≤ n ∧ n ≤ 600) ∧ plA C (cJ C) 0 = true ∧ vK V + n ≤ 7200) ∨ ∃ e, (e = 1 ∨ e = 2 ∨ e = 3) ∧ ∀ S, KS S C V → fx_X7_run fu x S = some (.inl e, S) := by
  have hx := q_rng x
  rw [← q_self x]
  generalize x.toInt = a at *
  have eout : ∀ S, f_X7_isOutside fu (i32 a) 1 600 S = some (bo (!decide (1 ≤ a ∧ a ≤ 600))) := fun S => s_isOutside (b := 1) (c := 600) (by omega) (by omega) (by omega) (by omega) (by omega) (by omega)
  have hK := h.2.1.1
  have hK2 := h.2.1.2.1
  by_cases e : 1 ≤ a ∧ a ≤ 600
  · by_cases e5 : plA C (cJ C) 0 = true
    · by_cases e6 : vK V + a ≤ 7200
      · obtain ⟨n, rfl⟩ : ∃ n : Nat, a = (n : Int) := ⟨a.toNat, by omega⟩
        exact Or.inl ⟨n, rfl, by omega, e5, e6⟩
      · refine Or.inr ⟨2, by omega, fun S hS => ?_⟩
        have e7200 : (7200 : Int32) = i32 7200 := rfl
        unfold fx_X7_run
        rw [eout, b1s, decide_eq_true e, Bool.not_true, boF rfl, s_checkPlans (by omega) h.1 hS.1, if_pos e5, bxr, hS.2.1, q_add, e7200, leF (by omega) (by omega) (by omega)]
    · refine Or.inr ⟨2, by omega, fun S hS => ?_⟩
      unfold fx_X7_run
      rw [eout, b1s, decide_eq_true e, Bool.not_true, boF rfl, s_checkPlans (by omega) h.1 hS.1, if_neg e5, bxl]
  · refine Or.inr ⟨1, by omega, fun S hS => ?_⟩
    unfold fx_X7_run
    rw [eout, b1s, decide_eq_false e, Bool.not_false, boT rfl]
theorem d_run (hfu : 700 ≤ fu) (h : OK C V) (x : Int32) : DT (fx_X7_run fu x) C V (PT C V) := by
  rcases k_noRun hfu h x with ⟨n, rfl, hn, e5, e6⟩ | ⟨e, he, hF⟩
  · obtain ⟨V', a1, a2, a3, a4⟩ := k_run hfu h hn e5 e6
    have hK := h.2.1.1
    exact ⟨_, C, V', a1, Or.inr ⟨vT V' - vT V, rfl, by omega, by omega⟩, a4⟩
  · exact dt_throw e he h hF
end RU
