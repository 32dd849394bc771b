/-! The law's act: its calls, by settings and what runs. -/
section AC
variable {fu : Nat} {C : Cf} {V : Rn}
theorem dt_low {γ : Type} {P : γ → Cf → Rn → Prop} {x n : Int32} {K : Int32 → Mem → Option (γ × Mem)} (hn : n ≠ 0) (hK : ∀ r, DT (K r) C V P) : DT (fun S => b1 (f_L_low fu x n S) (fun r => K r S)) C V P := by
  obtain ⟨r, hr⟩ := a_low (fu := fu) (x := x) hn
  exact (hK r).congr (fun S _ => by rw [hr S, b1s])
theorem dt_ite {γ : Type} {P : γ → Cf → Rn → Prop} {c : Prop} {d : Decidable c} {F G : Mem → Option (γ × Mem)} (h1 : c → DT F C V P) (h2 : ¬ c → DT G C V P) : DT (fun S => @ite _ c d (F S) (G S)) C V P := by
  by_cases e : c
  · exact (h1 e).congr (fun S _ => by rw [if_pos e])
  · exact (h2 e).congr (fun S _ => by rw [if_neg e])
theorem dt_b1 {γ : Type} {P : γ → Cf → Rn → Prop} {A : Mem → Option Int32} {a : Int32} {K : Int32 → Mem → Option (γ × Mem)} (hA : ∀ S, KS S C V → A S = some a) (hK : DT (K a) C V P) : DT (fun S => b1 (A S) (fun r => K r S)) C V P := hK.congr (fun S hS => by rw [hA S hS, b1s])
theorem dt_does (hfu : 700 ≤ fu) (h : OK C V) (w a b c d : Int32) : DT (fun S => b2 (f_L_does fu w a b c d S) (fun r S => some (r, S))) C V (PD C V) := (d_does hfu h w a b c d).congr (fun S _ => by
  cases f_L_does fu w a b c d S with
  | none => rfl
  | some z => rfl)
theorem d_const (h : OK C V) {v : Int} (h1 : -1 ≤ v) (h2 : v < 2147483648) : DT (fun S => some (i32 v, S)) C V (PD C V) := ⟨i32 v, C, V, h, Or.inr ⟨v, rfl, h1, h2⟩, fun S hS => ⟨S, rfl, hS⟩⟩
theorem d_act_482 (hfu : 700 ≤ fu) (h : OK C V) (x1 : Int32) (t0 : Int32) (t1 : Int32) (t2 : Int32) : DT (f_L_act_482 fu x1 t0 t1 t2) C V (PD C V) := by
  exact dt_does hfu h t2 t1 t0 0 0
theorem d_act_454 (hfu : 700 ≤ fu) (h : OK C V) (x1 : Int32) (x2 : Int32) (t0 : Int32) (t1 : Int32) : DT (f_L_act_454 fu x1 x2 t0 t1) C V (PD C V) := by
  exact dt_ite (fun _ => dt_low (by decide +kernel) (fun r478 => d_act_482 hfu h x1 (30 + r478) t0 t1)) (fun _ => dt_low (by decide +kernel) (fun r464 => d_act_482 hfu h x1 r464 t0 t1))
theorem d_act_381 (hfu : 700 ≤ fu) (h : OK C V) (x1 : Int32) (t0 : Int32) (t1 : Int32) (t2 : Int32) (t3 : Int32) (hn : t0 ≠ 0) : DT (f_L_act_381 fu x1 t0 t1 t2 t3) C V (PD C V) := by
  exact dt_low hn (fun r381 => dt_does hfu h t3 t2 r381 0 0)
theorem d_act_350 (hfu : 700 ≤ fu) (h : OK C V) (x1 : Int32) (t0 : Int32) (t1 : Int32) : DT (f_L_act_350 fu x1 t0 t1) C V (PD C V) := by
  exact dt_does hfu h t1 t0 0 0 0
theorem d_act_346 (hfu : 700 ≤ fu) (h : OK C V) (x1 : Int32) (t0 : Int32) (t1 : Int32) (t2 : Int32) (t3 : Int32) (hn : t0 ≠ 0) : DT (f_L_act_346 fu x1 t0 t1 t2 t3) C V (PD C V) := by
  exact dt_low hn (fun r346 => d_act_350 hfu h x1 (t2 + r346) t3)
theorem d_act_296 (hfu : 700 ≤ fu) (h : OK C V) (x1 : Int32) (t0 : Int32) (t1 : Int32) (t2 : Int32) (t3 : Int32) (t4 : Int32) (t5 : Int32) (hn : t0 ≠ 0) : DT (f_L_act_296 fu x1 t0 t1 t2 t3 t4 t5) C V (PD C V) := by
  exact dt_low hn (fun r296 => dt_does hfu h t5 t4 t3 (t2 + r296) 0)
theorem d_act_277 (hfu : 700 ≤ fu) (h : OK C V) (x1 : Int32) (x2 : Int32) (t0 : Int32) (t1 : Int32) (t2 : Int32) (t3 : Int32) (hn : t0 ≠ 0) : DT (f_L_act_277 fu x1 x2 t0 t1 t2 t3) C V (PD C V) := by
  exact dt_low hn (fun r277 => dt_ite (fun _ => d_act_296 hfu h x1 12 (x1 >>> (10 &&& 31)) 1 r277 t2 t3 (by decide +kernel)) (fun _ => d_act_296 hfu h x1 45 (x1 >>> (10 &&& 31)) 1 r277 t2 t3 (by decide +kernel)))
theorem d_act_243 (hfu : 700 ≤ fu) (h : OK C V) (x1 : Int32) (t0 : Int32) (t1 : Int32) (t2 : Int32) (t3 : Int32) (hn : t0 ≠ 0) : DT (f_L_act_243 fu x1 t0 t1 t2 t3) C V (PD C V) := by
  exact dt_low hn (fun r243 => dt_does hfu h t3 t2 r243 0 0)
theorem d_act_210 (hfu : 700 ≤ fu) (h : OK C V) (x1 : Int32) (t0 : Int32) (t1 : Int32) (t2 : Int32) (t3 : Int32) (t4 : Int32) (hn : t0 ≠ 0) : DT (f_L_act_210 fu x1 t0 t1 t2 t3 t4) C V (PD C V) := by
  exact dt_low hn (fun r210 => dt_does hfu h t4 t3 t2 r210 0)
theorem d_act_166 (hfu : 700 ≤ fu) (h : OK C V) (x1 : Int32) (t0 : Int32) (t1 : Int32) (t2 : Int32) (t3 : Int32) (t4 : Int32) (t5 : Int32) (hn : t0 ≠ 0) : DT (f_L_act_166 fu x1 t0 t1 t2 t3 t4 t5) C V (PD C V) := by
  exact dt_low hn (fun r166 => dt_does hfu h t5 t4 t3 t2 (r166 - 1))
theorem d_act_140 (hfu : 700 ≤ fu) (h : OK C V) (x1 : Int32) (x2 : Int32) (t0 : Int32) (t1 : Int32) (t2 : Int32) (t3 : Int32) (hn : t0 ≠ 0) : DT (f_L_act_140 fu x1 x2 t0 t1 t2 t3) C V (PD C V) := by
  exact dt_low hn (fun r140 => dt_low (by decide +kernel) (fun r148 => dt_ite (fun _ => d_act_166 hfu h x1 11 (x1 >>> (11 &&& 31)) r148 r140 t2 t3 (by decide +kernel)) (fun _ => d_act_166 hfu h x1 13 (x1 >>> (11 &&& 31)) r148 r140 t2 t3 (by decide +kernel))))
theorem d_act_113 (hfu : 700 ≤ fu) (h : OK C V) (x1 : Int32) (t0 : Int32) (t1 : Int32) (t2 : Int32) (t3 : Int32) (t4 : Int32) : DT (f_L_act_113 fu x1 t0 t1 t2 t3 t4) C V (PD C V) := by
  exact dt_does hfu h t4 t3 t2 t1 t0
theorem d_act_76 (hfu : 700 ≤ fu) (h : OK C V) (x1 : Int32) (x4 : Int32) (t0 : Int32) : DT (f_L_act_76 fu x1 x4 t0) C V (PD C V) := by
  exact dt_low (by decide +kernel) (fun r89 => dt_ite (fun _ => d_act_113 hfu h x1 0 t0 (1 + r89) x4 0) (fun _ => dt_low (by decide +kernel) (fun r110 => d_act_113 hfu h x1 r110 t0 (1 + r89) x4 0)))
theorem d_act_41 (hfu : 700 ≤ fu) (h : OK C V) (x1 : Int32) (x2 : Int32) (x3 : Int32) (t0 : Int32) (t1 : Int32) (hn : t0 ≠ 0) : DT (f_L_act_41 fu x1 x2 x3 t0 t1) C V (PD C V) := by
  exact dt_low hn (fun r41 => dt_ite (fun _ => dt_ite (fun _ => dt_ite (fun _ => dt_ite (fun _ => dt_ite (fun _ => dt_ite (fun _ => dt_ite (fun _ => dt_ite (fun _ => dt_does hfu h 7 0 0 0 0) (fun _ => dt_ite (fun _ => dt_b1 (fun S hS => a_clock hS) (d_const h (by have := h.2.1.1; omega) (by have := h.2.1.2.1; omega))) (fun _ => dt_ite (fun _ => dt_low (by decide +kernel) (fun r450 => d_act_454 hfu h x1 x2 (2 + r450) 8)) (fun _ => dt_low (by decide +kernel) (fun r438 => d_act_454 hfu h x1 x2 r438 8))))) (fun _ => dt_ite (fun _ => d_act_381 hfu h x1 4 (x1 >>> (7 &&& 31)) r41 6 (by decide +kernel)) (fun _ => d_act_381 hfu h x1 5 (x1 >>> (7 &&& 31)) r41 6 (by decide +kernel)))) (fun _ => dt_ite (fun _ => dt_ite (fun _ => d_act_346 hfu h x1 15 (x1 >>> (5 &&& 31)) 1 5 (by decide +kernel)) (fun _ => d_act_346 hfu h x1 120 (x1 >>> (5 &&& 31)) 1 5 (by decide +kernel))) (fun _ => dt_low (by decide +kernel) (fun r323 => d_act_350 hfu h x1 r323 5)))) (fun _ => dt_ite (fun _ => d_act_277 hfu h x1 x2 40 (x1 >>> (7 &&& 31)) r41 4 (by decide +kernel)) (fun _ => d_act_277 hfu h x1 x2 70 (x1 >>> (7 &&& 31)) r41 4 (by decide +kernel)))) (fun _ => dt_ite (fun _ => d_act_243 hfu h x1 30 (x1 >>> (7 &&& 31)) r41 3 (by decide +kernel)) (fun _ => d_act_243 hfu h x1 95 (x1 >>> (7 &&& 31)) r41 3 (by decide +kernel)))) (fun _ => dt_low (by decide +kernel) (fun r190 => dt_ite (fun _ => d_act_210 hfu h x1 1801 (x1 >>> (9 &&& 31)) r190 r41 2 (by decide +kernel)) (fun _ => d_act_210 hfu h x1 2000 (x1 >>> (9 &&& 31)) r190 r41 2 (by decide +kernel))))) (fun _ => dt_ite (fun _ => d_act_140 hfu h x1 x2 4 (x1 >>> (7 &&& 31)) r41 1 (by decide +kernel)) (fun _ => d_act_140 hfu h x1 x2 5 (x1 >>> (7 &&& 31)) r41 1 (by decide +kernel)))) (fun _ => dt_ite (fun _ => dt_low (by decide +kernel) (fun r73 => d_act_76 hfu h x1 r41 r73)) (fun _ => dt_low (by decide +kernel) (fun r61 => d_act_76 hfu h x1 r41 r61))))
theorem d_act_17 (hfu : 700 ≤ fu) (h : OK C V) (x1 : Int32) (t0 : Int32) : DT (f_L_act_17 fu x1 t0) C V (PD C V) := by
  have hj : i32 (cJ C : Int) ≠ 0 := fun z => by
    have h2 := h.j
    have := (q_eq (by omega) (by omega) (by omega) (by omega)).mp (z.trans q_0)
    omega
  exact dt_low (by decide +kernel) (fun r21 => dt_ite (fun _ => dt_b1 (fun S hS => a_junctions hS) (d_act_41 hfu h x1 t0 r21 (i32 (cJ C : Int)) (x1 >>> (4 &&& 31)) hj)) (fun _ => d_act_41 hfu h x1 t0 r21 7 (x1 >>> (4 &&& 31)) (by decide +kernel)))
theorem d_act (hfu : 700 ≤ fu) (h : OK C V) (x1 : Int32) : DT (f_L_act fu x1) C V (PD C V) := by
  exact dt_low (by decide +kernel) (fun r6 => dt_ite (fun _ => d_act_17 hfu h x1 1) (fun _ => d_act_17 hfu h x1 0))
end AC
