/-! bestByAll: the model, and both. -/
theorem n_1 : (1 : Int32).toNatClampNeg = 1 := rfl
theorem n_2 : (2 : Int32).toNatClampNeg = 2 := rfl
theorem PM.st {S S' : Mem} {k : Nat} {s : Nat → Nat} {c f : Nat → Int} {cy : Int} (h : PM S k s c f cy) (hf : ∀ a i, a ≠ 24 → S'.1 a 0 i = S.1 a 0 i) : PM S' k s c f cy := ⟨(hf _ _ (by omega)).trans h.1, fun p hq => ⟨(hf _ _ (by omega)).trans (h.2 p hq).1, (hf _ _ (by omega)).trans (h.2 p hq).2⟩⟩
theorem SM.st {S S' : Mem} {k : Nat} {s : Nat → Nat} {c f : Nat → Int} {cy : Int} (h : SM S k s c f cy) (hf : ∀ a i, a ≠ 24 → S'.1 a 0 i = S.1 a 0 i) : SM S' k s c f cy := by
  obtain ⟨j0, j1, j2, j3, j4, j5⟩ := h
  exact ⟨j0, (hf _ _ (by omega)).trans j1, (hf _ _ (by omega)).trans j2, fun p hp => (hf _ _ (by omega)).trans (j3 p hp), fun q hq => (hf _ _ (by omega)).trans (j4 q hq), fun m hm' => (hf _ _ (by omega)).trans (j5 m hm')⟩
/-- the offsets that are tried -/
def tryO (C : Cf) (n z : Nat) : Nat → Int := upI (upI (cO C) 1 ((z % n : Nat) : Int)) 2 ((z / n : Nat) : Int)
section BM
variable {fu : Nat} {C : Cf}
theorem bsum_b (C : Cf) (n : Nat) (O : Nat → Int) : 0 ≤ bsum C n O ∧ bsum C n O ≤ 2 * n := by
  have h1 := cntF_b (aF C O (-1)) n 0
  have h2 := cntF_b (aB C O (-1)) n 0
  unfold bsum
  omega
theorem m_b48 {n N : Nat} {x1 x2 : Int32} {S0 : Mem} (hfu : 200 ≤ fu) (hn : cCy C = (n : Int)) (hB : MB S0 C (cO C)) (hj3 : cJ C ≤ 3) (hN : N = if cJ C = 3 then n * n else n) : ∀ (d z m : Nat) (acc : Int) (S : Mem), z + d = N → d < m → 0 ≤ acc → acc ≤ 2 * n → (∀ a b i, ¬ (a = 24 ∧ b = 0 ∧ (i = 1 ∨ i = 2)) → S.1 a b i = S0.1 a b i) → S.2 = S0.2 → ∃ S' : Mem, f_X8_bestByAll_48 fu m x1 x2 (i32 acc) (i32 (z : Int)) S = some (i32 (mxF (fun z => bsum C n (tryO C n z)) d z acc), S') ∧ (∀ a b i, ¬ (a = 24 ∧ b = 0 ∧ (i = 1 ∨ i = 2)) → S'.1 a b i = S0.1 a b i) ∧ S'.2 = S0.2 ∧ S'.1 24 0 1 = x1 ∧ S'.1 24 0 2 = x2 := by
  intro d
  have h1 := hB.1
  have hcy := h1.2.2
  have hj := h1.1
  have hNb : N ≤ 8100 := by
    have := Nat.mul_le_mul (show n ≤ 90 by omega) (show n ≤ 90 by omega)
    rw [hN]
    split <;> omega
  have e71 : ∀ (K : Int32 → Int32 → Int32 → Int32 → Mem → Option (Int32 × Mem)) (x3 x4 : Int32) (S : Mem), S.1 8 0 1 = i32 (cJ C : Int) → S.1 8 0 2 = i32 (n : Int) → (if (S.1 8 0 1) = 3 then f_X8_bestByAll_70 fu K x1 x2 x3 x4 (S.1 8 0 2) (S.1 8 0 2) x4 S else f_X8_bestByAll_70 fu K x1 x2 x3 x4 1 (S.1 8 0 2) x4 S) = f_X8_bestByAll_70 fu K x1 x2 x3 x4 (i32 (if cJ C = 3 then (n : Int) else 1)) (i32 (n : Int)) x4 S := fun K x3 x4 S g1 g2 => by
    rw [g1, g2, q_3]
    by_cases e : cJ C = 3
    · rw [eqT (by omega), if_pos e]
    · rw [eqF (by omega) (by omega) (by omega) (by omega) (by omega), if_neg e]; rfl
  have eN : i32 (n : Int) * i32 (if cJ C = 3 then (n : Int) else 1) = i32 (N : Int) := by
    rw [q_mul, hN]
    by_cases e : cJ C = 3
    · rw [if_pos e, if_pos e, Int.natCast_mul]
    · rw [if_neg e, if_neg e, Int.mul_one]
  induction d with
  | zero =>
    intro z m acc S hz hm ha1 ha2 hf hf2
    obtain ⟨m, rfl⟩ : ∃ m', m = m' + 1 := ⟨m - 1, by omega⟩
    have g1 := (hf 8 0 1 (by omega)).trans hB.2.2.1
    have g2 := ((hf 8 0 2 (by omega)).trans hB.2.2.2.1).trans (congrArg i32 hn)
    rw [f_X8_bestByAll_48, e71 _ _ _ _ g1 g2, f_X8_bestByAll_70, eN, leT (by omega) (by omega) (by omega), gdt (by decide +kernel), gdt (by decide +kernel), n_1, n_2]
    exact ⟨_, rfl, fun a b i hq => by rw [w_ne (by omega), w_ne (by omega)]; exact hf a b i hq, hf2, by rw [w_ne (by omega), w_eq], w_eq⟩
  | succ d ih =>
    intro z m acc S hz hm ha1 ha2 hf hf2
    obtain ⟨m, rfl⟩ : ∃ m', m = m' + 1 := ⟨m - 1, by omega⟩
    have g1 := (hf 8 0 1 (by omega)).trans hB.2.2.1
    have g2 := ((hf 8 0 2 (by omega)).trans hB.2.2.2.1).trans (congrArg i32 hn)
    have er : i32 (z : Int) - i32 (z : Int) / i32 (n : Int) * i32 (n : Int) = i32 ((z % n : Nat) : Int) := by
      rw [s_rem (by omega) (by omega) (by omega) (by omega)]
      congr 1
    have ed : i32 (z : Int) / i32 (n : Int) = i32 ((z / n : Nat) : Int) := by
      rw [q_div (by omega) (by omega) (by omega) (by omega)]
      congr 1
    have hne : (!(i32 (n : Int) == 0)) = true := by
      rw [Bool.not_eq_true', beq_eq_false_iff_ne]
      exact fun h => absurd ((q_eq (by omega) (by omega) (by omega) (by omega)).mp (h.trans q_0)) (by omega)
    have e3 : i32 (z : Int) + 1 = i32 ((z + 1 : Nat) : Int) := by rw [q_1, q_add]; rfl
    have hbs := bsum_b C n (tryO C n z)
    have hm1 := Nat.mod_lt z (show 0 < n by omega)
    have hf' : ∀ a b i, ¬ (a = 24 ∧ b = 0 ∧ (i = 1 ∨ i = 2)) → (wI (wI S 24 0 1 (i32 ((z % n : Nat) : Int))) 24 0 2 (i32 ((z / n : Nat) : Int))).1 a b i = S0.1 a b i := fun a b i hq => by
      rw [w_ne (by omega), w_ne (by omega)]; exact hf a b i hq
    have hB' : MB (wI (wI S 24 0 1 (i32 ((z % n : Nat) : Int))) 24 0 2 (i32 ((z / n : Nat) : Int))) C (tryO C n z) := by
      obtain ⟨-, h0, b1', b2', b3, b4⟩ := hB
      refine ⟨h1, h0, (hf' _ _ _ (by omega)).trans b1', (hf' _ _ _ (by omega)).trans b2', fun j hj' => ?_, fun j hj' => (hf' _ _ _ (by omega)).trans (b4 j hj')⟩
      obtain ⟨p1, p2, g3, g4, g5⟩ := b3 j hj'
      refine ⟨p1.st (fun a i hq => hf' _ _ _ (by omega)), p2.st (fun a i hq => hf' _ _ _ (by omega)), ?_⟩
      unfold tryO
      by_cases e2 : j = 2
      · have hJ : cJ C = 3 := by omega
        rw [if_pos hJ] at hN
        have hd := Nat.div_lt_of_lt_mul (show z < n * n by omega)
        rw [e2, upI_s]
        exact ⟨w_eq, Int.natCast_nonneg _, by rw [hn]; exact Int.ofNat_lt.mpr hd⟩
      · rw [upI_n e2]
        by_cases e1 : j = 1
        · rw [e1, upI_s]
          exact ⟨by rw [w_ne (by omega), w_eq], Int.natCast_nonneg _, by rw [hn]; exact Int.ofNat_lt.mpr hm1⟩
        · rw [upI_n e1]
          exact ⟨(hf' _ _ _ (by omega)).trans g3, g4, g5⟩
    have hbd := m_bands (fu := fu) (by omega) hn hB'
    rw [f_X8_bestByAll_48, e71 _ _ _ _ g1 g2, f_X8_bestByAll_70, eN, leF (by omega) (by omega) (by omega), g2, gdt hne, gdt (by decide +kernel), w_ne (by omega), g2, gdt hne, gdt (by decide +kernel), n_1, n_2, er, ed, hbd, b1s]
    unfold f_X8_bestByAll_118
    rw [e3, mxF]
    have hi := imx_bI ⟨ha1, ha2⟩ hbs
    by_cases e : bsum C n (tryO C n z) ≤ acc
    · have ei : imx acc (bsum C n (tryO C n z)) = acc := by unfold imx; rw [if_neg (by omega)]
      rw [leT e (by omega) (by omega), ei]
      exact ih (z + 1) m acc _ (by omega) (by omega) ha1 ha2 hf' hf2
    · have ei : imx acc (bsum C n (tryO C n z)) = bsum C n (tryO C n z) := by unfold imx; rw [if_pos (by omega)]
      rw [leF (by omega) (by omega) (by omega), ei]
      exact ih (z + 1) m _ _ (by omega) (by omega) hbs.1 hbs.2 hf' hf2
theorem best_2 {n : Nat} (hj : cJ C = 2) : mxF (fun z => bsum C n (tryO C n z)) n 0 0 = mxF (shF C n 1 (gF C 0 (cO C 0)) (gB C 0 (cO C 0))) n 0 0 := by
  refine mxF_cg n 0 0 (fun z _ hz => ?_)
  have hz' : z % n = z := Nat.mod_eq_of_lt (by omega)
  have e0 : tryO C n z 0 = cO C 0 := by unfold tryO; rw [upI_n (by omega), upI_n (by omega)]
  have e1 : tryO C n z 1 = (z : Int) := by unfold tryO; rw [upI_n (by omega), upI_s, hz']
  unfold bsum shF
  congr 1
  · refine cntF_congr n 0 (fun t _ _ => ?_)
    rw [← aF_m, hj, al, al, al, e0, e1, Bool.and_true]
  · refine cntF_congr n 0 (fun t _ _ => ?_)
    rw [← aB_m, hj, al, al, al, e0, e1, Bool.and_true]
theorem best_3 {n : Nat} (hj : cJ C = 3) (hn : 1 ≤ n) : mxF (fun z => bsum C n (tryO C n z)) (n * n) 0 0 = mxF (fun x => mxF (in3 C n (cO C 0) x) n 0 0) n 0 0 := by
  rw [mxF_sq (in3 C n (cO C 0)) n hn]
  refine mxF_cg _ 0 0 (fun z _ hz => ?_)
  have e0 : tryO C n z 0 = cO C 0 := by unfold tryO; rw [upI_n (by omega), upI_n (by omega)]
  have e1 : tryO C n z 1 = ((z % n : Nat) : Int) := by unfold tryO; rw [upI_n (by omega), upI_s]
  have e2 : tryO C n z 2 = ((z / n : Nat) : Int) := by unfold tryO; rw [upI_s]
  unfold bsum in3 shF
  congr 1
  · refine cntF_congr n 0 (fun t _ _ => ?_)
    rw [← aF_m, hj, al, al, al, al, e0, e1, e2, Bool.and_true, Bool.and_assoc]
  · refine cntF_congr n 0 (fun t _ _ => ?_)
    rw [← aB_m, hj, al, al, al, al, e0, e1, e2, Bool.and_true, Bool.and_assoc]
theorem s_best {n : Nat} {S : Mem} (hfu : 200 ≤ fu) (hn : cCy C = (n : Int)) (h1 : okC C) (h2 : kcC S C) (h0 : ∀ k, k < cJ C → 0 ≤ lef (cS C k) (cC C k) (cCy C)) (hj3 : cJ C ≤ 3) : ∃ S' : Mem, f_X0_bestOverAllOffsets fu S = some (i32 (mxF (fun z => bsum C n (tryO C n z)) (if cJ C = 3 then n * n else n) 0 0), S') ∧ S'.1 = S.1 := by
  have hj : 2 ≤ cJ C ∧ cJ C ≤ 5 := ⟨h1.1, h1.2.1⟩
  have hcy := h1.2.2
  have ho := (h1.2.2.2.2.1 0 (by omega)).2
  obtain ⟨S1, a1, a2, a3⟩ := s_fillF (fu := fu) (k := 0) (i := 0) hfu h1 h2 (by omega) (h0 0 (by omega)) hn ho
  have h2a : kcC S1 C := by unfold kcC SJ PLN at *; rw [a2.1]; exact h2
  obtain ⟨S2, c1, c2, c3⟩ := s_fillF (fu := fu) (k := 1) (i := 1) (o := 0) hfu h1 h2a (by omega) (h0 1 (by omega)) hn (by omega)
  have h2b : kcC S2 C := by unfold kcC SJ PLN at *; rw [c2.1, a2.1]; exact h2
  have a1' : f_X0_fillFrom fu 0 (i32 (cO C 0)) 0 S = some ((), S1) := a1
  have c1' : f_X0_fillFrom fu 1 0 1 S1 = some ((), S2) := c1
  have eat : f_X1_at fu 0 S = some 0 := s_at' (k := 0) hj.2 h2.1 (by omega)
  unfold f_X0_bestOverAllOffsets
  rw [eat, b1s, (h2.2.2.1 0 (by omega)).2.2, a1', b2s, c1', b2s, h2b.1, q_2]
  by_cases e : cJ C = 2
  · obtain ⟨S3, d1, d2, d3⟩ := s_great (fu := fu) (i1 := 0) (i2 := 1) (k := 1) hfu hn h1 (by omega) h2b.2.1 (a3.fr c2 (by omega)) c3
    rw [eqT (by omega), d1, b2s, if_neg (by omega), best_2 e]
    exact ⟨S3, rfl, d2.1.trans (c2.1.trans a2.1)⟩
  · obtain ⟨S3, d1, d2, d3⟩ := s_fillF (fu := fu) (k := 2) (i := 3) (o := 0) hfu h1 h2b (by omega) (h0 2 (by omega)) hn (by omega)
    have d1' : f_X0_fillFrom fu (i32 2) 0 3 S2 = some ((), S3) := d1
    obtain ⟨S4, f1, f2⟩ := s_b68 (fu := fu) (o := cO C 0) hfu hn h1 n 0 fu 0 S3 (by omega) (by omega) (by omega) (by omega) (by rw [d2.1]; exact h2b.2.1) ((a3.fr c2 (by omega)).fr d2 (by omega)) (c3.fr d2 (by omega)) d3
    have f1' : f_X0_bestOverAllOffsets_68 fu fu 0 0 S3 = _ := f1
    rw [eqF (by omega) (by omega) (by omega) (by omega) (by omega), d1', b2s, f1', if_pos (by omega), best_3 (by omega) (by omega)]
    exact ⟨S4, rfl, f2.trans (d2.1.trans (c2.1.trans a2.1))⟩
end BM
theorem sim_bestByAll (fu : Nat) (hfu : 8200 ≤ fu) : Sim_bestByAll fu RR := by
  intro S SR h
  have h' := h
  obtain ⟨C, V, h1, h2, h3, h4, h5, h6⟩ := h'
  have hj : 2 ≤ cJ C ∧ cJ C ≤ 5 := ⟨h1.1, h1.2.1⟩
  have hcy := h1.2.2
  obtain ⟨n, hn⟩ : ∃ n : Nat, cCy C = (n : Int) := ⟨(cCy C).toNat, by omega⟩
  obtain ⟨S4, e4, f4, th4, pm4⟩ := m_all (fu := fu) (by omega) h1 h3
  have h3' := h3.mf f4
  unfold fx_X7_bestByAll f_X8_bestByAll f_X8_bestByAll_16 f_X8_bestByAll_21
  rw [s_checkPlans (by omega) h1 h2, e4, b2s]
  have refuse : ∃ (z : Nat ⊕ Int32) (S2 : Mem) (y : Int32) (SR2 : Mem) (k_1 : Int32), some ((Sum.inl 2 : Nat ⊕ Int32), S) = some (z, S2) ∧ hc1 2 z = some k_1 ∧ (b2 (f_X8_holds fu 1 S4) (fun r21 S21 => (if r21 = 0 then some (0, S21) else gd (inb 1 5) (gd (inb 2 5) (f_X8_bestByAll_48 fu fu (S21.1 24 0 (1 : Int32).toNatClampNeg) (S21.1 24 0 (2 : Int32).toNatClampNeg) 0 0 S21))))) = some (y, SR2) ∧ SR2.1 8 0 0 = k_1 ∧ (∀ (v : Int32), z = Sum.inr v → v = y) ∧ RR S2 SR2 := by
    rw [m_holdsN (by decide +kernel), b2s, if_pos rfl]
    exact ⟨_, _, 0, _, 1, rfl, rfl, rfl, w_eq, (fun v hv => by cases hv), h.mf (f4.trans moF.th)⟩
  by_cases e5 : plA C (cJ C) 0 = true
  · rw [if_pos e5, bxr, boT e5, h2.1, h3'.1, q_3]
    by_cases e6 : cJ C ≤ 3
    · have h0 : ∀ k, k < cJ C → 0 ≤ lef (cS C k) (cC C k) (cCy C) := fun k hk => plA_all (cJ C) 0 e5 k (by omega) (by omega)
      obtain ⟨S2, a1, a2⟩ := s_best (fu := fu) (by omega) hn h1 h2 h0 e6
      have hB := MB.of h1 h0 (h3.mf (f4.trans (moF.th (v := 0)))) pm4.th
      have hn2 := Nat.mul_le_mul (show n ≤ 90 by omega) (show n ≤ 90 by omega)
      obtain ⟨SR', m1, m2, m3, m4, m5⟩ := m_b48 (fu := fu) (x1 := (wI S4 8 0 0 0).1 24 0 1) (x2 := (wI S4 8 0 0 0).1 24 0 2) (by omega) hn hB e6 rfl _ 0 fu 0 (wI S4 8 0 0 0) (Nat.zero_add _) (by split <;> omega) (by omega) (by omega) (fun _ _ _ _ => rfl) rfl
      have m1' : f_X8_bestByAll_48 fu fu ((wI S4 8 0 0 0).1 24 0 1) ((wI S4 8 0 0 0).1 24 0 2) 0 0 (wI S4 8 0 0 0) = _ := m1
      rw [leT (by omega) (by omega) (by omega), leT (by omega) (by omega) (by omega), m_holds0, b2s, if_neg (by decide +kernel), gdt (by decide +kernel), gdt (by decide +kernel), n_1, n_2, m1', a1, b2s]
      have hsame : ∀ a b i, SR'.1 a b i = (wI S4 8 0 0 0).1 a b i := fun a b i => by
        by_cases c : a = 24 ∧ b = 0 ∧ (i = 1 ∨ i = 2)
        · obtain ⟨rfl, rfl, rfl | rfl⟩ := c
          · exact m4
          · exact m5
        · exact m2 a b i c
      have hm : moF (wI S4 8 0 0 0) SR' := ⟨fun a b i _ => hsame a b i, m3⟩
      exact ⟨_, _, _, _, 0, rfl, rfl, rfl, (hsame 8 0 0).trans w_eq, (fun v hv => by cases hv; rfl), (h.mf ((f4.trans moF.th).trans hm)).cf a2⟩
    · rw [leF (by omega) (by omega) (by omega), leF (by omega) (by omega) (by omega)]
      exact refuse
  · have e5' : plA C (cJ C) 0 = false := by
      cases hz : plA C (cJ C) 0 with
      | false => rfl
      | true => exact absurd hz e5
    rw [if_neg e5, bxl, boF e5']
    exact refuse
