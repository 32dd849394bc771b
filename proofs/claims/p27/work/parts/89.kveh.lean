/-! The law's vehicles; its cycle. -/
section VE
variable {fu : Nat} {S : Mem} {C : Cf} {V : Rn}
/-- the phase now as the law sees it -/
def phL (C : Cf) (V : Rn) (k : Nat) : Int := if 0 ≤ lf C k then phB (cS C k) (cC C k) (cF C k) (cCy C) (cO C k) (vK V) (vU V k) else -2
theorem phL_b (C : Cf) (V : Rn) (k : Nat) : -2 ≤ phL C V k ∧ phL C V k < 4 := by
  unfold phL
  have hm := mny_le (cS C k)
  split
  · rcases pha_ok (s := cS C k) (g := gBu (grn (cS C k) (cC C k) (cF C k) (cCy C)) (act (cCy C) (cO C k) (vK V) (vU V k))) (cc := clr (cS C k) (cC C k)) ((vK V - cO C k) % cCy C) with e | ⟨q, hq, e⟩
    · unfold phB; rw [e]; omega
    · unfold phB; rw [e]; omega
  · omega
theorem hld_b (h : OK C V) {k : Nat} (hk : k + 1 < cJ C) : 0 ≤ vQ V (k + 1) ∧ vQ V (k + 1) ≤ hld V k ∧ hld V k ≤ 40 := by
  have h1 := (h.2.1.2.2.2.2.2.2.2.2.2.2.1 k hk).1
  have h2 := h.1.2.2.2.2.2 k hk
  have h3 := (h.2.1.2.2.2.2.2.2.2.2.1 (k + 1) hk).1
  unfold hld
  omega
theorem v_loop (hfu : 100 ≤ fu) (h : OK C V) (hS : KS S C V) : ∀ d k n : Nat, k + d = cJ C → d < n → f_L_areVehiclesSo_62 fu S n (i32 (vT V + vQ V 0 + sms (hld V) (min k (cJ C - 1)))) 1 (i32 (k : Int)) = some 1 := by
  have hj := h.j
  intro d
  induction d with
  | zero =>
    intro k n hk hn
    obtain ⟨n, rfl⟩ : ∃ n', n = n' + 1 := ⟨n - 1, by omega⟩
    have e : min k (cJ C - 1) = cJ C - 1 := by omega
    have hiv := h.2.2.1.1
    rw [f_L_areVehiclesSo_62, a_junctions hS, b1s, leT (by omega) (by omega) (by omega), e]
    unfold f_L_areVehiclesSo_156 f_L_areVehiclesSo_173
    rw [if_neg (by decide +kernel), a_come hS, b1s, if_pos (by rw [hiv]), nb_1]
  | succ d ih =>
    intro k n hk hn
    obtain ⟨n, rfl⟩ : ∃ n', n = n' + 1 := ⟨n - 1, by omega⟩
    have hk' : k < cJ C := by omega
    have hQ := (h.2.1.2.2.2.2.2.2.2.2.1 k hk')
    have hph := phL_b C V k
    have g94 : ∀ t0 : Int, vT V + vQ V 0 + sms (hld V) (min k (cJ C - 1)) + t0 = vT V + vQ V 0 + sms (hld V) (min (k + 1) (cJ C - 1)) → f_L_areVehiclesSo_94 fu (f_L_areVehiclesSo_62 fu S n) S (i32 (k : Int)) (i32 t0) (i32 (vT V + vQ V 0 + sms (hld V) (min k (cJ C - 1)))) = some 1 := by
      intro t0 ht0
      have e3 : i32 (k : Int) + 1 = i32 ((k + 1 : Nat) : Int) := by rw [q_1, q_add]; rfl
      have g135 : f_L_areVehiclesSo_135 fu (f_L_areVehiclesSo_62 fu S n) S (i32 (vT V + vQ V 0 + sms (hld V) (min (k + 1) (cJ C - 1)))) (i32 (k : Int)) = some 1 := by
        unfold f_L_areVehiclesSo_135 f_L_areVehiclesSo_149
        rw [g_phaseNow hfu h hS hk', b1s]
        rw [q_4, show (if 0 ≤ lf C k then phB (cS C k) (cC C k) (cF C k) (cCy C) (cO C k) (vK V) (vU V k) else -2) = phL C V k from rfl, leF (by omega) (by omega) (by omega), e3]
        exact ih (k + 1) n (by omega) (by omega)
      unfold f_L_areVehiclesSo_94
      rw [a_queue h hS hk', b1s, q_0, ltF (by omega) (by omega) (by omega), q_add, ht0]
      cases k with
      | zero =>
        rw [if_pos (show i32 ((0 : Nat) : Int) = i32 0 from rfl)]
        exact g135
      | succ k =>
        have e0 : ¬ i32 ((k + 1 : Nat) : Int) = i32 0 := fun z => by
          have := (q_eq (by omega) (by omega) (by omega) (by omega)).mp z
          omega
        have e1 : i32 ((k + 1 : Nat) : Int) - 1 = i32 (k : Int) := by
          rw [q_1, q_sub]
          congr 1
          omega
        have hb := hld_b h hk'
        rw [if_neg e0, e1, a_held h hS hk', b1s, b1s, ltF (by omega) (by omega) (by omega), b1s, q_40, ltF (by omega) (by omega) (by omega)]
        exact g135
    rw [f_L_areVehiclesSo_62, a_junctions hS, b1s, leF (by omega) (by omega) (by omega), if_neg (by decide +kernel), b1s, q_1, q_sub]
    by_cases e : k + 1 < cJ C
    · rw [leF (by omega) (by omega) (by omega), a_held h hS e, b1s]
      refine g94 (hld V k) ?_
      rw [show min k (cJ C - 1) = k by omega, show min (k + 1) (cJ C - 1) = k + 1 by omega]
      show _ = vT V + vQ V 0 + (sms (hld V) k + hld V k)
      omega
    · rw [leT (by omega) (by omega) (by omega)]
      refine g94 0 ?_
      rw [show min k (cJ C - 1) = cJ C - 1 by omega, show min (k + 1) (cJ C - 1) = cJ C - 1 by omega]
      omega
theorem g_vehicles (hfu : 100 ≤ fu) (h : OK C V) (hS : KS S C V) : f_L_areVehiclesSo fu S = some 1 := by
  have hj := h.j
  obtain ⟨o1, o2, o3, o4, o5, o6, o7, o8, o9, -⟩ := h.2.1
  have hq := (o9 0 (by omega)).1
  obtain ⟨hiv, hv2⟩ := h.2.2.1
  have hs := sms_ge (f := fun k => hld V (min k (cJ C - 2))) (b := 0) (cJ C - 1) (fun i _ => by
    have := hld_b h (k := min i (cJ C - 2)) (by omega)
    show 0 ≤ hld V (min i (cJ C - 2))
    omega)
  have hs2 : sms (fun k => hld V (min k (cJ C - 2))) (cJ C - 1) = sms (hld V) (cJ C - 1) := sms_congr _ (fun i hi => by rw [show min i (cJ C - 2) = i by omega])
  rw [Int.mul_zero, hs2] at hs
  have e7200 : (7200 : Int32) = i32 7200 := rfl
  unfold f_L_areVehiclesSo
  have hq0 := a_queue (fu := fu) h hS (k := 0) (by omega)
  have hq0' : f_X7_queue fu 0 S = some (i32 (vQ V 0)) := hq0
  rw [a_through hS, b1s, hq0', b1s, a_clock hS, b1s, q_0, ltF (by omega) (by omega) (by omega), b1s, e7200, ltF (by omega) (by omega) (by omega), a_come hS, b1s, b1s, q_2, q_mul, ltF (by omega) (by omega) (by omega), b1s, b1s, q_mul, ltF (by omega) (by omega) (by omega), q_add]
  unfold f_L_areVehiclesSo_59
  have := v_loop (fu := fu) hfu h hS (cJ C) 0 7 (by omega) (by omega)
  rw [show min 0 (cJ C - 1) = 0 by omega, show sms (hld V) 0 = 0 from rfl, Int.add_zero] at this
  exact this
/-- the cycle of a junction: that of the corridor, or 0 -/
def cyL (C : Cf) (k : Nat) : Int := if 0 ≤ lf C k then cCy C else 0
theorem g_cycle (h : OK C V) (hS : KS S C V) {k : Nat} (hk : k < cJ C) : f_L_cycle fu (i32 (k : Int)) S = some (i32 (cyL C k)) := by
  have hcy := h.cy
  have hm := mny_le (cS C k)
  obtain ⟨hoJ, hoo⟩ := h.1.2.2.2.2.1 k hk
  unfold f_L_cycle cyL
  by_cases h0 : 0 ≤ lf C k
  · rw [if_pos h0]
    have lp : ∀ d p n : Nat, p + d = mny (cS C k) → d < n → f_L_cycle_4 fu (i32 (k : Int)) S n (i32 (sms (gcs (grn (cS C k) (cC C k) (cF C k) (cCy C)) (clr (cS C k) (cC C k))) p)) (i32 (p : Int)) = some (i32 (cCy C)) := by
      intro d
      induction d with
      | zero =>
        intro p n hp hn
        obtain ⟨n, rfl⟩ : ∃ n', n = n' + 1 := ⟨n - 1, by omega⟩
        have e : sms (gcs (grn (cS C k) (cC C k) (cF C k) (cCy C)) (clr (cS C k) (cC C k))) (mny (cS C k)) = cCy C := plan_sum h0
        rw [f_L_cycle_4, g_green h hS hk (by omega), b1s, if_neg (show ¬ p < mny (cS C k) by omega), q_0, ltT (by omega) (by omega) (by omega), show p = mny (cS C k) by omega, e]
      | succ d ih =>
        intro p n hp hn
        obtain ⟨n, rfl⟩ : ∃ n', n = n' + 1 := ⟨n - 1, by omega⟩
        have hg := grn_b hoJ h0 (p := p) (by omega)
        have e3 : i32 (p : Int) + 1 = i32 ((p + 1 : Nat) : Int) := by rw [q_1, q_add]; rfl
        rw [f_L_cycle_4, g_green h hS hk (by omega), b1s, if_pos (show p < mny (cS C k) by omega), if_pos h0, q_0, ltF (by omega) (by omega) (by omega), b1s, a_clearing h hS hk (by omega), b1s, q_add, q_add, e3]
        exact ih (p + 1) n (by omega) (by omega)
    have := lp (mny (cS C k)) 0 6 (by omega) (by omega)
    exact this
  · rw [if_neg h0]
    have hg := g_green (fu := fu) h hS (p := 0) hk (by omega)
    rw [if_pos (show 0 < mny (cS C k) by omega), if_neg h0] at hg
    have hg' : f_L_green fu (i32 (k : Int)) 0 S = some (i32 (-2)) := hg
    rw [f_L_cycle_4, hg', b1s, q_0, ltT (by omega) (by omega) (by omega)]
end VE
