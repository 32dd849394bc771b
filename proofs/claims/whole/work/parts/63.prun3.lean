/-! run: landing and ready times on both sides. -/
def lnS (S : Mem) (k p : Nat) : Mem := wI (wI (wI S 17 k p 0) 4 k 3 (S.1 4 k 3 - S.1 17 k p)) 3 (k + 1) 11 (S.1 3 (k + 1) 11 + S.1 17 k p)
def rdy (g : Bool) (r : Int) : Int := if g = true then (if 2 ≤ r then 2 else r + 1) else 0
theorem rdy_b (g : Bool) {r : Int} (h : 0 ≤ r ∧ r ≤ 2) : 0 ≤ rdy g r ∧ rdy g r ≤ 2 := by
  unfold rdy
  split
  · split <;> omega
  · omega
def upW (f : Nat → List Int) (k : Nat) (v : List Int) : Nat → List Int := fun j => if j = k then v else f j
theorem upW_s {f : Nat → List Int} {k : Nat} {v : List Int} : upW f k v k = v := if_pos rfl
theorem upW_n {f : Nat → List Int} {k j : Nat} {v : List Int} (h : j ≠ k) : upW f k v j = f j := if_neg h
section RL
variable {fu : Nat} {S SR : Mem}
theorem r_ld {C : Cf} {K A M T : Int} {U : Nat → Option Bus} {Q R : Nat → Int} {W : Nat → List Int} {k : Nat} (hfu : 100 ≤ fu) (hk : k + 1 < cJ C) (hX : FX C K U S SR) (hD : DY C A M T Q R W S SR) (ho : okD C K A M T Q R W (k + 1) (k + 1)) : ∃ (SR' : Mem) (Q' : Nat → Int) (W' : Nat → List Int), f_X8_joins fu (i32 ((k + 1 : Nat) : Int)) SR = some ((), SR') ∧ FX C K U (lnS S k (K % 61).toNat) SR' ∧ DY C A M T Q' R W' (lnS S k (K % 61).toNat) SR' ∧ okD C K A M T Q' R W' (k + 2) (k + 1) := by
  have hj : 2 ≤ cJ C ∧ cJ C ≤ 5 := ⟨hX.1.1, hX.1.2.1⟩
  obtain ⟨d1, d2, d3, d4, d5, d6⟩ := hD
  obtain ⟨o1, o2, o3, o4, o5, o6, o7, o8, o9, o10, o11, o12⟩ := ho
  obtain ⟨z1, z2, z3⟩ := o12 k hk
  have hL := hX.1.2.2.2.2.2 k hk
  have hQ := o9 (k + 1) hk
  have z4 : ∀ e, e ∈ W k → K ≤ e ∧ e < K + 61 := fun e he => by
    have := z2 e he
    rw [if_neg (by omega), if_pos (by omega)] at this
    omega
  obtain ⟨e1, e2, e3⟩ := lnd_len K (W k)
  obtain ⟨SR', m1, m2, m3, m4, m5⟩ := m_joins (fu := fu) (j := k) (K := K) (Q := Q (k + 1)) (w := W k) (S := SR) hfu (by omega) (by omega) ⟨o1, by omega⟩ (d6 k hk).2.2.1 (d6 k hk).2.2.2 hX.2.2.2.2.2.2.1 z3 (fun e he => by have := z4 e he; omega) (d4 (k + 1) hk).2
  have hp : (K % 61).toNat < 61 := by omega
  have c1 := (lnd_cnt z3 z4 0).1
  have c2 := fun r => (lnd_cnt z3 z4 r).2
  generalize hpp : (K % 61).toNat = p at *
  have f1 : ∀ a b i, ¬ (a = 17 ∧ b = k ∧ i = p) → ¬ (a = 4 ∧ b = k ∧ i = 3) → ¬ (a = 3 ∧ b = k + 1 ∧ i = 11) → (lnS S k p).1 a b i = S.1 a b i := fun a b i q1 q2 q3 => by
    unfold lnS
    rw [w_ne q3, w_ne q2, w_ne q1]
  refine ⟨SR', upI Q (k + 1) (Q (k + 1) + lnN K (W k)), upW W k (lnd K (W k)), m1, hX.fr (fun a b i q1 q2 q3 q4 => f1 a b i (by omega) (by omega) (by omega)) (fun a i q1 q2 => m5 a 0 i (by omega) (by omega) (by omega)), ⟨⟨(f1 _ _ _ (by omega) (by omega) (by omega)).trans d1.1, (m5 _ _ _ (by omega) (by omega) (by omega)).trans d1.2⟩, ⟨(f1 _ _ _ (by omega) (by omega) (by omega)).trans d2.1, (m5 _ _ _ (by omega) (by omega) (by omega)).trans d2.2⟩, ⟨(f1 _ _ _ (by omega) (by omega) (by omega)).trans d3.1, (m5 _ _ _ (by omega) (by omega) (by omega)).trans d3.2⟩, fun j hj' => ?_, fun j hj' => ⟨(f1 _ _ _ (by omega) (by omega) (by omega)).trans (d5 j hj').1, (m5 _ _ _ (by omega) (by omega) (by omega)).trans (d5 j hj').2⟩, fun j hj' => ?_⟩, ?_⟩
  · by_cases e : j = k + 1
    · subst e
      rw [upI_s]
      refine ⟨?_, m4⟩
      unfold lnS
      rw [w_eq, (d4 (k + 1) hk).1, (d6 k hk).2.1 p hp, q_add, c1]
    · rw [upI_n e]
      exact ⟨(f1 _ _ _ (by omega) (by omega) (by omega)).trans (d4 j hj').1, (m5 _ _ _ (by omega) (by omega) (by omega)).trans (d4 j hj').2⟩
  · by_cases e : j = k
    · subst e
      rw [upW_s]
      refine ⟨?_, fun r hr => ?_, m2, m3⟩
      · unfold lnS
        rw [w_ne (by omega), w_eq, (d6 j hk).1, (d6 j hk).2.1 p hp, q_sub, c1, e1]
      · rw [c2 r]
        by_cases e : r = p
        · rw [if_pos e]
          unfold lnS
          rw [w_ne (by omega), w_ne (by omega), e, w_eq]
          rfl
        · rw [if_neg e, f1 _ _ _ (by omega) (by omega) (by omega), (d6 j hk).2.1 r hr]
    · rw [upW_n e]
      exact ⟨(f1 _ _ _ (by omega) (by omega) (by omega)).trans (d6 j hj').1, fun r hr => (f1 _ _ _ (by omega) (by omega) (by omega)).trans ((d6 j hj').2.1 r hr), (m5 _ _ _ (by omega) (by omega) (by omega)).trans (d6 j hj').2.2.1, fun i hi => by
        have := (d6 j hj').1
        have := (o12 j hj').1
        have := hX.1.2.2.2.2.2 j hj'
        have := o9 (j + 1) hj'
        exact (m5 _ _ _ (by omega) (by omega) (by omega)).trans ((d6 j hj').2.2.2 i hi)⟩
  · refine ⟨o1, o2, o3, o4, o5, ?_, o7, o8, fun j hj' => ?_, o10, ?_, fun j hj' => ?_⟩
    · rw [if_pos (by omega)] at o6 ⊢; exact o6
    · by_cases e : j = k + 1
      · subst e; rw [upI_s]; omega
      · rw [upI_n e]; exact o9 j hj'
    · rw [upI_n (by omega)]; exact o11
    · obtain ⟨y1, y2, y3⟩ := o12 j hj'
      by_cases e : j = k
      · subst e
        rw [upW_s, upI_s]
        refine ⟨by omega, fun e he => ?_, lnd_pw z3⟩
        have h1 := lnd_gt z3 (fun e he => (z4 e he).1) he
        have h2 := (z2 e (lnd_sub he)).2
        rw [if_pos (by omega)] at h2
        rw [if_pos (by omega), if_pos (by omega)]
        exact ⟨h1, h2⟩
      · rw [upW_n e, upI_n (by omega)]
        refine ⟨y1, fun e he => ?_, y3⟩
        have h1 := y2 e he
        rcases Nat.lt_or_ge j k with h2 | h2
        · rw [if_pos (by omega), if_pos (by omega)] at h1
          rw [if_pos (by omega), if_pos (by omega)]
          exact h1
        · rw [if_neg (by omega), if_neg (by omega)] at h1
          rw [if_neg (by omega), if_neg (by omega)]
          exact h1
/-- is the way forward green -/
def gnw (C : Cf) (K : Int) (U : Nat → Option Bus) (k : Nat) : Bool := (litB (cS C k) (phB (cS C k) (cC C k) (cF C k) (cCy C) (cO C k) K (U k))).testBit 0
theorem s_grow {C : Cf} {K r : Int} {U : Nat → Option Bus} {k : Nat} (hfu : 100 ≤ fu) (hk : k < cJ C) (hK : 0 ≤ K ∧ K < 10000) (hX : FX C K U S SR) (hr : 0 ≤ r ∧ r ≤ 2) (hR : S.1 3 k 12 = i32 r) : f_X3_growReady fu k (i32 K) S = some ((), wI S 3 k 12 (i32 (rdy (gnw C K U k) r))) := by
  have hoJ := (hX.1.2.2.2.2.1 k hk).1
  have hP := hX.2.2.1.2.2.1 k hk
  have hU := hX.2.2.2.2.2.2.2.2.2.2 k hk
  have hmn := mny_le (cS C k)
  have e1 := s_phaseIn (fu := fu) (t := K) (by omega) hoJ (hX.2.1 k hk) hP.1 hP.2.1 hP.2.2 (hX.1.2.2.2.2.1 k hk).2 ⟨hK.1, by omega⟩ hU.2.2 hU.1
  have hph : phB (cS C k) (cC C k) (cF C k) (cCy C) (cO C k) K (U k) = -1 ∨ ∃ q : Nat, q < mny (cS C k) ∧ phB (cS C k) (cC C k) (cF C k) (cCy C) (cO C k) K (U k) = (q : Int) := pha_ok _
  unfold f_X3_growReady f_X3_growReady_30 f_X3_growReady_31 f_X3_growReady_51 gnw
  rw [e1, b1s]
  rcases hph with e | ⟨q, hq, e⟩
  · rw [e, q_m1, eqT rfl, if_pos rfl]
    have : litB (cS C k) (-1) = 0 := if_pos rfl
    rw [this, Nat.zero_testBit, rdy, if_neg (by simp), q_0]
  · have hb : f_X7_hasBit fu (i32 (cS C k q : Int)) 0 S = some (bo ((cS C k q).testBit 0)) := s_hasBit (m := 0) (hoJ.1 q (by omega)) (by omega)
    have hl : litB (cS C k) (q : Int) = cS C k q := if_neg (by omega)
    rw [e, q_m1, eqF (by omega) (by omega) (by omega) (by omega) (by omega), s_read (by omega) (by omega) (by omega), b1s, show ((q : Int)).toNat = q by omega, hP.1.2.2.1 q (by omega), hb, b1s, hl]
    cases (cS C k q).testBit 0 with
    | false => rw [boF rfl, if_pos rfl, rdy, if_neg (by simp), q_0]
    | true =>
      rw [boT rfl, if_neg (by decide +kernel), rdy, if_pos rfl, hR, q_1, q_add]
      unfold jmin
      rw [q_2]
      by_cases h : 2 ≤ r
      · rw [ltF (by omega) (by omega) (by omega), if_pos h]
      · rw [if_neg h]
        by_cases h1 : r + 1 < 2
        · rw [ltT h1 (by omega) (by omega)]
        · rw [ltF (by omega) (by omega) (by omega), show r + 1 = 2 by omega]
theorem m_grow {C : Cf} {K r : Int} {U : Nat → Option Bus} {k : Nat} (hfu : 100 ≤ fu) (hk : k < cJ C) (hK : 0 ≤ K ∧ K < 10000) (hX : FX C K U S SR) (hr : 0 ≤ r ∧ r ≤ 2) (hR : SR.1 31 0 k = i32 r) : f_X8_leaves fu (i32 (k : Int)) SR = f_X8_leaves_63 fu (i32 (k : Int)) (bo (decide (k + 1 = cJ C))) (wI SR 31 0 k (i32 (rdy (gnw C K U k) r))) := by
  have hj : 2 ≤ cJ C ∧ cJ C ≤ 5 := ⟨hX.1.1, hX.1.2.1⟩
  have hoJ := (hX.1.2.2.2.2.1 k hk).1
  have hM := hX.2.2.2.1.2.1 k hk
  have hU := hX.2.2.2.2.2.2.2.2.2.2 k hk
  have hmn := mny_le (cS C k)
  have e1 := m_phaseAt1 (fu := fu) (t := K) (by omega) hoJ (hX.2.1 k hk) hM.1 (hX.2.2.2.2.1 k hk) hM.2 (hX.1.2.2.2.2.1 k hk).2 ⟨hK.1, by omega⟩ hU.2.2 hU.2.1
  have e2 : f_X8_isGreenAt fu (i32 (k : Int)) 0 (SR.1 8 0 14) 1 SR = some (bo (gnw C K U k)) := by
    rw [hX.2.2.2.2.2.2.1]
    exact m_isGreenAt (m := 0) hoJ hM.1 (by omega) (pha_ok _) e1
  have hN : (i32 (k : Int)).toNatClampNeg = k := by rw [q_nat (by omega) (by omega)]; omega
  have e3 : ∀ v : Int, f_X8_leaves_47 fu (i32 (k : Int)) (i32 v) (i32 (k : Int)) SR = f_X8_leaves_63 fu (i32 (k : Int)) (bo (decide (k + 1 = cJ C))) (wI SR 31 0 k (i32 v)) := fun v => by
    unfold f_X8_leaves_47
    rw [gdt (q_inb (by omega) (by omega) (by omega)), hN, w_ne (by omega), hX.2.2.2.1.1, q_1, q_sub]
    by_cases e : k + 1 = cJ C
    · rw [eqT (by omega), decide_eq_true e]; rfl
    · rw [eqF (by omega) (by omega) (by omega) (by omega) (by omega), decide_eq_false e]; rfl
  unfold f_X8_leaves
  rw [e2, b1s, hN, hR]
  cases gnw C K U k with
  | false => rw [boF rfl, rdy, if_neg (by simp), q_0]; exact e3 0
  | true =>
    rw [boT rfl, gdt (q_inb (by omega) (by omega) (by omega)), rdy, if_pos rfl, q_2]
    by_cases h : 2 ≤ r
    · rw [leT h (by omega) (by omega), if_pos h]; exact e3 2
    · rw [leF (by omega) (by omega) (by omega), gdt (q_inb (by omega) (by omega) (by omega)), if_neg h, q_1, q_add]; exact e3 (r + 1)
theorem r_grow {C : Cf} {K A M T : Int} {U : Nat → Option Bus} {Q R : Nat → Int} {W : Nat → List Int} {k l s : Nat} {v : Int} (hv : 0 ≤ v ∧ v ≤ 2) (hX : FX C K U S SR) (hD : DY C A M T Q R W S SR) (ho : okD C K A M T Q R W l s) : FX C K U (wI S 3 k 12 (i32 v)) (wI SR 31 0 k (i32 v)) ∧ DY C A M T Q (upI R k v) W (wI S 3 k 12 (i32 v)) (wI SR 31 0 k (i32 v)) ∧ okD C K A M T Q (upI R k v) W l s := by
  obtain ⟨d1, d2, d3, d4, d5, d6⟩ := hD
  obtain ⟨o1, o2, o3, o4, o5, o6, o7, o8, o9, o10, o11, o12⟩ := ho
  refine ⟨hX.fr (fun a b i q1 q2 q3 q4 => w_ne (by omega)) (fun a i q1 q2 => w_ne (by omega)), ⟨⟨(w_ne (by omega)).trans d1.1, (w_ne (by omega)).trans d1.2⟩, ⟨(w_ne (by omega)).trans d2.1, (w_ne (by omega)).trans d2.2⟩, ⟨(w_ne (by omega)).trans d3.1, (w_ne (by omega)).trans d3.2⟩, fun j hj' => ⟨(w_ne (by omega)).trans (d4 j hj').1, (w_ne (by omega)).trans (d4 j hj').2⟩, fun j hj' => ?_, fun j hj' => ⟨(w_ne (by omega)).trans (d6 j hj').1, fun r hr => (w_ne (by omega)).trans ((d6 j hj').2.1 r hr), (w_ne (by omega)).trans (d6 j hj').2.2.1, fun i hi => (w_ne (by omega)).trans ((d6 j hj').2.2.2 i hi)⟩⟩, o1, o2, o3, o4, o5, o6, o7, o8, o9, fun j hj' => ?_, o11, o12⟩
  · by_cases e : j = k
    · subst e; rw [upI_s]; exact ⟨w_eq, w_eq⟩
    · rw [upI_n e]; exact ⟨(w_ne (by omega)).trans (d5 j hj').1, (w_ne (by omega)).trans (d5 j hj').2⟩
  · by_cases e : j = k
    · subst e; rw [upI_s]; exact hv
    · rw [upI_n e]; exact o10 j hj'
end RL
