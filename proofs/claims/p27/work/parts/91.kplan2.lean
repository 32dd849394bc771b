/-! The law's plans, walked. -/
section PS
variable {fu : Nat} {S : Mem} {C : Cf} {V : Rn}
abbrev K7t : Type := Int32 → Int32 → Int32 → Mem → Option (Int32 × Mem)
abbrev K9t : Type := Int32 → Int32 → Int32 → Int32 → Int32 → Int32 → Mem → Option (Int32 × Mem)
/-- the movements that are green at a second -/
def LIk (C : Cf) (k : Nat) (t : Int) : Nat := lit (cS C k) (cC C k) (cF C k) (cCy C) ((t - cO C k) % cCy C)
theorem LIk_lt (h : OK C V) {k : Nat} (hk : k < cJ C) (t : Int) : LIk C k t < 16 := lit_lt (h.1.2.2.2.2.1 k hk).1 _
theorem LIk_cy (C : Cf) (k : Nat) (t : Int) : LIk C k (t + cCy C) = LIk C k t := by
  unfold LIk
  rw [show t + cCy C - cO C k = (t - cO C k) + cCy C by omega, Int.add_emod_right]
theorem p_146 {K : K9t} {k : Nat} {a : Int} {q : Nat} {x2 x6 : Int32} (h : OK C V) (hS : KS S C V) (hk : k < cJ C) (h0 : 0 ≤ lf C k) (ha : 0 ≤ a ∧ a < 1000) (hq : q < 1000) : ∀ (d m n : Nat) (acc : Int), m + d = 4 → d < n → f_L_arePlansSo_146 fu K (i32 a) n x2 (i32 (k : Int)) (i32 (cCy C)) x6 (i32 (q : Int)) (i32 acc) (i32 (m : Int)) S = f_L_arePlansSo_222 fu K (i32 a) x2 (i32 (k : Int)) (i32 (cCy C)) x6 (i32 (q : Int)) (i32 (acc + cntF (fun m => (LIk C k (a + q)).testBit m) d m)) 1 S := by
  have hcy := h.cy
  intro d
  induction d with
  | zero =>
    intro m n acc hm hn
    obtain ⟨n, rfl⟩ : ∃ n', n = n' + 1 := ⟨n - 1, by omega⟩
    have hq4 : i32 (q : Int) - i32 (q : Int) / i32 4 * i32 4 = i32 ((q % 4 : Nat) : Int) := by
      rw [s_rem (by omega) (by omega) (by omega) (by omega)]
      exact congrArg i32 (Int.tmod_eq_emod_of_nonneg (Int.natCast_nonneg q))
    have hne : (!((4 : Int32) == 0)) = true := by decide +kernel
    have e1 := a_isGreen (fu := fu) h hS (m := q % 4) (t := a + q) hk h0 (by omega) (by omega)
    have e2 := a_isGreen (fu := fu) h hS (m := q % 4) (t := a + q + cCy C) hk h0 (by omega) (by omega)
    have e3 : lit (cS C k) (cC C k) (cF C k) (cCy C) ((a + q + cCy C - cO C k) % cCy C) = lit (cS C k) (cC C k) (cF C k) (cCy C) ((a + q - cO C k) % cCy C) := LIk_cy C k (a + q)
    rw [e3] at e2
    rw [f_L_arePlansSo_146, gdt hne, q_4, leT (by omega) (by omega) (by omega), hq4, q_add, e1, b1s, ← q_4, gdt hne, q_add, e2, b1s, if_pos rfl]
    have e0 : cntF (fun m => (LIk C k (a + q)).testBit m) 0 m = 0 := rfl
    rw [e0, Int.add_zero]
  | succ d ih =>
    intro m n acc hm hn
    obtain ⟨n, rfl⟩ : ∃ n', n = n' + 1 := ⟨n - 1, by omega⟩
    have e1 := a_isGreen (fu := fu) h hS (m := m) (t := a + q) hk h0 (by omega) (by omega)
    have e3 : i32 (m : Int) + 1 = i32 ((m + 1 : Nat) : Int) := by rw [q_1, q_add]; rfl
    have ec : cntF (fun m => (LIk C k (a + q)).testBit m) (d + 1) m = (if (LIk C k (a + q)).testBit m = true then 1 else 0) + cntF (fun m => (LIk C k (a + q)).testBit m) d (m + 1) := rfl
    have el : lit (cS C k) (cC C k) (cF C k) (cCy C) ((a + q - cO C k) % cCy C) = LIk C k (a + q) := rfl
    rw [f_L_arePlansSo_146, q_4, leF (by omega) (by omega) (by omega), q_add, e1, b1s, el, ec]
    unfold f_L_arePlansSo_174
    rw [e3]
    cases (LIk C k (a + q)).testBit m with
    | false =>
      rw [boF rfl, if_neg (by simp), q_0, q_add, Int.zero_add, Int.add_zero]
      exact ih (m + 1) n acc (by omega) (by omega)
    | true =>
      rw [boT rfl, if_pos rfl, q_1, q_add, ← Int.add_assoc]
      exact ih (m + 1) n (acc + 1) (by omega) (by omega)
/-- a second of a turn counts, if a movement is green -/
def grQ (C : Cf) (k : Nat) (a : Int) (q : Nat) : Bool := decide (LIk C k (a + q) ≠ 0)
theorem p_129 {K : K7t} {k : Nat} {a : Int} {x2 : Int32} (h : OK C V) (hS : KS S C V) (hk : k < cJ C) (h0 : 0 ≤ lf C k) (ha : 0 ≤ a ∧ a < 1000) : ∀ (d q n : Nat) (acc : Int), (q : Int) + d = cCy C → d < n → 0 ≤ acc → acc ≤ q → f_L_arePlansSo_129 fu K (i32 a) n x2 1 (i32 (k : Int)) (i32 (cCy C)) (i32 acc) (i32 (q : Int)) S = f_L_arePlansSo_244 fu K (i32 a) x2 1 (i32 (k : Int)) (i32 (cCy C)) (i32 (acc + cntF (grQ C k a) d q)) S := by
  have hcy := h.cy
  intro d
  induction d with
  | zero =>
    intro q n acc hq hn h1 h2
    obtain ⟨n, rfl⟩ : ∃ n', n = n' + 1 := ⟨n - 1, by omega⟩
    have e0 : cntF (grQ C k a) 0 q = 0 := rfl
    rw [f_L_arePlansSo_129, leT (by omega) (by omega) (by omega), e0, Int.add_zero]
  | succ d ih =>
    intro q n acc hq hn h1 h2
    obtain ⟨n, rfl⟩ : ∃ n', n = n' + 1 := ⟨n - 1, by omega⟩
    have e3 : i32 (q : Int) + 1 = i32 ((q + 1 : Nat) : Int) := by rw [q_1, q_add]; rfl
    have ec : cntF (grQ C k a) (d + 1) q = (if grQ C k a q = true then 1 else 0) + cntF (grQ C k a) d (q + 1) := rfl
    have hb := bits_pos (LIk_lt h hk (a + q))
    have hcb := cntF_b (fun m => (LIk C k (a + q)).testBit m) 4 0
    have p1 := p_146 (fu := fu) (K := f_L_arePlansSo_129 fu K (i32 a) n) (x2 := x2) (x6 := i32 acc) (q := q) h hS hk h0 ha (by omega) 4 0 6 0 (by omega) (by omega)
    rw [Int.zero_add] at p1
    have p1' : f_L_arePlansSo_146 fu (f_L_arePlansSo_129 fu K (i32 a) n) (i32 a) 6 x2 (i32 (k : Int)) (i32 (cCy C)) (i32 acc) (i32 (q : Int)) 0 0 S = _ := p1
    rw [f_L_arePlansSo_129, leF (by omega) (by omega) (by omega), if_neg (by decide +kernel), p1', ec]
    unfold f_L_arePlansSo_222 f_L_arePlansSo_235
    rw [e3, q_0]
    by_cases e : LIk C k (a + q) ≠ 0
    · have e4 := hb.mpr e
      rw [leF (by omega) (by omega) (by omega), q_1, q_add, show grQ C k a q = true from decide_eq_true e, if_pos rfl, ← Int.add_assoc]
      exact ih (q + 1) n (acc + 1) (by omega) (by omega) (by omega) (by omega)
    · have e4 : ¬ 0 < cntF (fun m => (LIk C k (a + q)).testBit m) 4 0 := fun z => e (hb.mp z)
      rw [leT (by omega) (by omega) (by omega), q_add, show grQ C k a q = false from decide_eq_false e, if_neg (by simp), Int.zero_add, Int.add_zero]
      exact ih (q + 1) n acc (by omega) (by omega) (by omega) (by omega)
theorem p_250 {K : K7t} {k : Nat} {x1 x2 : Int32} (hfu : 100 ≤ fu) (h : OK C V) (hS : KS S C V) (hk : k < cJ C) (h0 : 0 ≤ lf C k) : ∀ (d p n : Nat), p + d = mny (cS C k) → d < n → f_L_arePlansSo_250 fu K x1 n x2 1 (i32 (k : Int)) (i32 (cCy C)) (i32 (cCy C - sms (clr (cS C k) (cC C k)) (mny (cS C k)))) (i32 (sms (clr (cS C k) (cC C k)) p)) (i32 (p : Int)) S = K x2 1 (i32 ((k + 1 : Nat) : Int)) S := by
  have hcy := h.cy
  have hm := mny_le (cS C k)
  obtain ⟨hoJ, hoo⟩ := h.1.2.2.2.2.1 k hk
  intro d
  induction d with
  | zero =>
    intro p n hp hn
    obtain ⟨n, rfl⟩ : ∃ n', n = n' + 1 := ⟨n - 1, by omega⟩
    have hb := cntF_b (brF (cS C k) (cC C k) (cF C k) (cCy C) (cO C k)) (cCy C).toNat 0
    have e3 : i32 (k : Int) + 1 = i32 ((k + 1 : Nat) : Int) := by rw [q_1, q_add]; rfl
    rw [f_L_arePlansSo_250, g_green h hS hk (by omega), b1s, if_neg (show ¬ p < mny (cS C k) by omega), q_0, ltT (by omega) (by omega) (by omega), if_neg (by decide +kernel), q_sub, show p = mny (cS C k) by omega, if_pos rfl, a_breaches hfu h hS hk h0, b1s, ltF (by omega) (by omega) (by omega), b1s, ltF (by omega) (by omega) (by omega)]
    unfold f_L_arePlansSo_341 f_L_arePlansSo_342
    rw [e3]
  | succ d ih =>
    intro p n hp hn
    obtain ⟨n, rfl⟩ : ∃ n', n = n' + 1 := ⟨n - 1, by omega⟩
    have hg := grn_b hoJ h0 (p := p) (by omega)
    have hg2 := grn_ge (f := cF C k) h0 p
    have hl := lst_b (cS C k) p
    have e3 : i32 (p : Int) + 1 = i32 ((p + 1 : Nat) : Int) := by rw [q_1, q_add]; rfl
    rw [f_L_arePlansSo_250, g_green h hS hk (by omega), b1s, if_pos (show p < mny (cS C k) by omega), if_pos h0, q_0, ltF (by omega) (by omega) (by omega), a_clearing h hS hk (by omega), b1s, if_neg (by decide +kernel), b1s, q_5, ltF (by omega) (by omega) (by omega), q_add]
    unfold f_L_arePlansSo_295
    rw [e3]
    exact ih (p + 1) n (by omega) (by omega)
/-- the corridor's cycle, if one of the first junctions has a plan -/
def cyc (C : Cf) : Nat → Int
  | 0 => 0
  | k + 1 => if 0 ≤ lf C k then cCy C else cyc C k
theorem cyc_or (C : Cf) : ∀ k, cyc C k = 0 ∨ cyc C k = cCy C
  | 0 => Or.inl rfl
  | k + 1 => by
    unfold cyc
    split
    · exact Or.inr rfl
    · exact cyc_or C k
theorem p_7 {k n : Nat} {a : Int} (hfu : 100 ≤ fu) (h : OK C V) (hS : KS S C V) (hk : k < cJ C) (ha : 0 ≤ a ∧ a < 1000) : f_L_arePlansSo_7 fu (i32 a) (n + 1) (i32 (cyc C k)) 1 (i32 (k : Int)) S = f_L_arePlansSo_7 fu (i32 a) n (i32 (cyc C (k + 1))) 1 (i32 ((k + 1 : Nat) : Int)) S := by
  have hj := h.j
  have hcy := h.cy
  have hm := mny_le (cS C k)
  obtain ⟨hoJ, hoo⟩ := h.1.2.2.2.2.1 k hk
  have e3 : i32 (k : Int) + 1 = i32 ((k + 1 : Nat) : Int) := by rw [q_1, q_add]; rfl
  have i30 : (30 : Int32) = i32 30 := rfl
  have i90 : (90 : Int32) = i32 90 := rfl
  have g76 : ∀ (x5 : Int32), f_L_arePlansSo_76 fu (f_L_arePlansSo_7 fu (i32 a) n) (i32 a) (i32 (cyc C k)) (i32 (k : Int)) x5 S = f_L_arePlansSo_101 fu (f_L_arePlansSo_7 fu (i32 a) n) (i32 a) (i32 (cyc C k)) (i32 (k : Int)) x5 1 S := fun x5 => by
    unfold f_L_arePlansSo_76
    rw [a_offset h hS hk, b1s, q_0, ltF (by omega) (by omega) (by omega), b1s, i90, leF (by omega) (by omega) (by omega)]
  rw [f_L_arePlansSo_7, a_junctions hS, b1s, leF (by omega) (by omega) (by omega), if_neg (by decide +kernel), g_cycle h hS hk, b1s, a_hasPlan h hS hk, b1s]
  unfold cyL
  by_cases h0 : 0 ≤ lf C k
  · rw [if_pos h0, q_0, leF (by omega) (by omega) (by omega), decide_eq_true h0]
    have e2 : cyc C (k + 1) = cCy C := by unfold cyc; rw [if_pos h0]
    have g44 : f_L_arePlansSo_44 fu (f_L_arePlansSo_7 fu (i32 a) n) (i32 a) (i32 (cyc C k)) (i32 (k : Int)) (i32 (cCy C)) 1 (bo true) S = f_L_arePlansSo_101 fu (f_L_arePlansSo_7 fu (i32 a) n) (i32 a) (i32 (cyc C k)) (i32 (k : Int)) (i32 (cCy C)) 1 S := by
      unfold f_L_arePlansSo_44
      rw [bo_t, if_pos rfl, q_0, eqF (by omega) (by omega) (by omega) (by omega) (by omega), i30, ltF (by omega) (by omega) (by omega), i90, ltF (by omega) (by omega) (by omega)]
      rcases cyc_or C k with e | e
      · rw [e, if_pos rfl, ← e]
        exact g76 _
      · rw [e, eqF (by omega) (by omega) (by omega) (by omega) (by omega), if_pos rfl, ← e]
        rw [e]
        rw [e] at g76
        exact g76 _
    have p1 := p_129 (fu := fu) (K := f_L_arePlansSo_7 fu (i32 a) n) (x2 := i32 (cCy C)) h hS hk h0 ha (cCy C).toNat 0 92 0 (by omega) (by omega) (by omega) (by omega)
    have p1' : f_L_arePlansSo_129 fu (f_L_arePlansSo_7 fu (i32 a) n) (i32 a) 92 (i32 (cCy C)) 1 (i32 (k : Int)) (i32 (cCy C)) 0 0 S = _ := p1
    have ht : cntF (grQ C k a) (cCy C).toNat 0 = cCy C - sms (clr (cS C k) (cC C k)) (mny (cS C k)) := by
      rw [← turn_cnt hoJ h0 (h.2.2.2 k hk) (a - cO C k)]
      refine cntF_congr _ 0 (fun j _ _ => ?_)
      unfold grQ LIk
      rw [show a + (j : Int) - cO C k = (j : Int) + (a - cO C k) by omega]
    have p2 := p_250 (fu := fu) (K := f_L_arePlansSo_7 fu (i32 a) n) (x1 := i32 a) (x2 := i32 (cCy C)) hfu h hS hk h0 (mny (cS C k)) 0 6 (by omega) (by omega)
    have p2' : f_L_arePlansSo_250 fu (f_L_arePlansSo_7 fu (i32 a) n) (i32 a) 6 (i32 (cCy C)) 1 (i32 (k : Int)) (i32 (cCy C)) (i32 (cCy C - sms (clr (cS C k) (cC C k)) (mny (cS C k)))) 0 0 S = _ := p2
    rw [g44, e2]
    unfold f_L_arePlansSo_101
    rw [q_0, leF (by omega) (by omega) (by omega)]
    unfold f_L_arePlansSo_113
    rw [q_0, leF (by omega) (by omega) (by omega), if_neg (by decide +kernel), ← q_0, p1', Int.zero_add, ht]
    unfold f_L_arePlansSo_244
    exact p2'
  · rw [if_neg h0, q_0, leT (by omega) (by omega) (by omega), decide_eq_false h0]
    have e2 : cyc C (k + 1) = cyc C k := by
      show (if 0 ≤ lf C k then cCy C else cyc C k) = cyc C k
      rw [if_neg h0]
    unfold f_L_arePlansSo_44
    rw [bo_f, if_pos (show (0 : Int32) = i32 0 from rfl), q_0, if_pos rfl, g76]
    unfold f_L_arePlansSo_101
    rw [q_0, leT (by omega) (by omega) (by omega)]
    unfold f_L_arePlansSo_113 f_L_arePlansSo_342
    rw [q_0, leT (by omega) (by omega) (by omega), e3, e2]
theorem p_348 {a : Int} (hfu : 200 ≤ fu) (h : OK C V) (hS : KS S C V) : ∃ S' : Mem, f_L_arePlansSo_348 fu (i32 a) (i32 (cyc C (cJ C))) 1 S = some (1, S') ∧ S'.1 = S.1 := by
  have hj := h.j
  have hcy := h.cy
  obtain ⟨S1, a1, a2⟩ := g_band (x := 1) hfu h hS true rfl
  obtain ⟨S2, c1, c2⟩ := g_band (x := 0) hfu h (hS.same a2) false rfl
  have b1b := cntF_b (aF C (cO C) (-1)) (cCy C).toNat 0
  have b2b := cntF_b (aB C (cO C) (-1)) (cCy C).toNat 0
  refine ⟨S2, ?_, c2.trans a2⟩
  unfold f_L_arePlansSo_348
  by_cases e5 : plA C (cJ C) 0 = true
  · have e2 : cyc C (cJ C) = cCy C := by
      obtain ⟨j, hjj⟩ : ∃ j, cJ C = j + 1 := ⟨cJ C - 1, by omega⟩
      have h0 : 0 ≤ lf C j := plA_all (cJ C) 0 e5 j (by omega) (by omega)
      rw [hjj]
      show (if 0 ≤ lf C j then cCy C else cyc C j) = cCy C
      rw [if_pos h0]
    have eT : bnd C true = cntF (aF C (cO C) (-1)) (cCy C).toNat 0 := by unfold bnd; rw [if_pos e5, if_pos rfl]
    have eF : bnd C false = cntF (aB C (cO C) (-1)) (cCy C).toNat 0 := by unfold bnd; rw [if_pos e5, if_neg (by simp)]
    rw [eT] at a1
    rw [eF] at c1
    rw [a1, b2s, c1, b2s, if_neg (by decide +kernel), e2, q_0, ltF (by omega) (by omega) (by omega), ltF (by omega) (by omega) (by omega), ltF (by omega) (by omega) (by omega), ltF (by omega) (by omega) (by omega)]
    unfold f_L_arePlansSo_388
    rw [q_0, leT (by omega) (by omega) (by omega)]
    unfold f_L_arePlansSo_398
    rw [q_0, leT (by omega) (by omega) (by omega)]
    unfold f_L_arePlansSo_408
    rw [if_pos rfl]
    unfold f_L_arePlansSo_416
    rw [nb_1]
  · have eT : bnd C true = -2 := by unfold bnd; rw [if_neg e5]
    have eF : bnd C false = -2 := by unfold bnd; rw [if_neg e5]
    rw [eT] at a1
    rw [eF] at c1
    rw [a1, b2s, c1, b2s, if_neg (by decide +kernel), q_0, ltT (by omega) (by omega) (by omega)]
    unfold f_L_arePlansSo_388
    rw [q_0, leF (by omega) (by omega) (by omega)]
    unfold f_L_arePlansSo_398
    rw [q_0, leF (by omega) (by omega) (by omega)]
    unfold f_L_arePlansSo_408
    rw [if_pos rfl]
    unfold f_L_arePlansSo_416
    rw [nb_1]
theorem g_plans {a : Int} (hfu : 200 ≤ fu) (h : OK C V) (hS : KS S C V) (ha : 0 ≤ a ∧ a < 1000) : ∃ S' : Mem, f_L_arePlansSo fu (i32 a) S = some (1, S') ∧ S'.1 = S.1 := by
  have hj := h.j
  have lp : ∀ d k n : Nat, k + d = cJ C → d < n → ∃ S' : Mem, f_L_arePlansSo_7 fu (i32 a) n (i32 (cyc C k)) 1 (i32 (k : Int)) S = some (1, S') ∧ S'.1 = S.1 := by
    intro d
    induction d with
    | zero =>
      intro k n hk hn
      obtain ⟨n, rfl⟩ : ∃ n', n = n' + 1 := ⟨n - 1, by omega⟩
      obtain ⟨S', e1, e2⟩ := p_348 (a := a) hfu h hS
      refine ⟨S', ?_, e2⟩
      rw [f_L_arePlansSo_7, a_junctions hS, b1s, leT (by omega) (by omega) (by omega), show k = cJ C by omega]
      exact e1
    | succ d ih =>
      intro k n hk hn
      obtain ⟨n, rfl⟩ : ∃ n', n = n' + 1 := ⟨n - 1, by omega⟩
      rw [p_7 (by omega) h hS (by omega) ha]
      exact ih (k + 1) n (by omega) (by omega)
  exact lp (cJ C) 0 7 (by omega) (by omega)
end PS
