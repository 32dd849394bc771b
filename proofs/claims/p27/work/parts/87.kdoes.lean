/-! The law's 'does' and 'act', by settings and what runs. -/
/-- what the law is told: -99999 and nothing changed, or an answer from -1 on -/
def PD (C : Cf) (V : Rn) (z : Int32) (C' : Cf) (V' : Rn) : Prop := (z = -99999 ∧ C' = C ∧ V' = V) ∨ ∃ v : Int, z = i32 v ∧ -1 ≤ v ∧ v < 2147483648
section DO
variable {fu : Nat} {C : Cf} {V : Rn}
theorem hnd {γ : Type} {e : Nat} {a b : Option γ} (h : e = 1 ∨ e = 2 ∨ e = 3) : (if e = 3 then a else if e = 1 then a else if e = 2 then a else b) = a := by
  rcases h with rfl | rfl | rfl <;> rfl
/-- a call in the law's net -/
theorem dt_net {F : Mem → Option ((Nat ⊕ Int32) × Mem)} {G : Mem → Option (Int32 × Mem)} (hd : DT F C V (PT C V)) (hG : ∀ S, G S = b2 (F S) (fun z S12 => bz z (fun e => if e = 3 then some (-99999, S12) else if e = 1 then some (-99999, S12) else if e = 2 then some (-99999, S12) else none) (fun v => some (v, S12)))) : DT G C V (PD C V) := by
  obtain ⟨z, C', V', h1, h2, h3⟩ := hd
  rcases h2 with ⟨e, rfl, he, rfl, rfl⟩ | ⟨v, rfl, hv⟩
  · refine ⟨-99999, _, _, h1, Or.inl ⟨rfl, rfl, rfl⟩, fun S hS => ?_⟩
    obtain ⟨S', t1, t2⟩ := h3 S hS
    exact ⟨S', by rw [hG, t1, b2s, bzl, hnd he], t2⟩
  · refine ⟨i32 v, C', V', h1, Or.inr ⟨v, rfl, hv⟩, fun S hS => ?_⟩
    obtain ⟨S', t1, t2⟩ := h3 S hS
    exact ⟨S', by rw [hG, t1, b2s, bzr], t2⟩
theorem d_does (hfu : 700 ≤ fu) (h : OK C V) (w a b c d : Int32) : DT (f_L_does fu w a b c d) C V (PD C V) := by
  by_cases e0 : w = 0
  · exact dt_net (d_setPhases (fu := fu) (by omega) h a b c d 0) (fun S => by unfold f_L_does f_L_does_129; rw [if_pos e0])
  by_cases e1 : w = 1
  · exact dt_net (d_setConflict (fu := fu) (by omega) h a b c d) (fun S => by unfold f_L_does f_L_does_129; rw [if_neg e0, if_pos e1])
  by_cases e2 : w = 2
  · exact dt_net (d_setFlow (fu := fu) (by omega) h a b c) (fun S => by unfold f_L_does f_L_does_129; rw [if_neg e0, if_neg e1, if_pos e2])
  by_cases e3 : w = 3
  · exact dt_net (d_setOffset (fu := fu) h a b) (fun S => by unfold f_L_does f_L_does_129; rw [if_neg e0, if_neg e1, if_neg e2, if_pos e3])
  by_cases e4 : w = 4
  · exact dt_net (d_link (fu := fu) h a b c) (fun S => by unfold f_L_does f_L_does_129; rw [if_neg e0, if_neg e1, if_neg e2, if_neg e3, if_pos e4])
  by_cases e5 : w = 5
  · exact dt_net (d_run (fu := fu) hfu h a) (fun S => by unfold f_L_does f_L_does_129; rw [if_neg e0, if_neg e1, if_neg e2, if_neg e3, if_neg e4, if_pos e5])
  by_cases e6 : w = 6
  · exact dt_net (d_callBus (fu := fu) (by omega) h a b) (fun S => by unfold f_L_does f_L_does_129; rw [if_neg e0, if_neg e1, if_neg e2, if_neg e3, if_neg e4, if_neg e5, if_pos e6])
  by_cases e7 : w = 7
  · exact dt_net (d_improve (fu := fu) (by omega) h) (fun S => by unfold f_L_does f_L_does_129; rw [if_neg e0, if_neg e1, if_neg e2, if_neg e3, if_neg e4, if_neg e5, if_neg e6, if_pos e7])
  · exact dt_net (d_begin (fu := fu) (by omega) h a b) (fun S => by unfold f_L_does f_L_does_129; rw [if_neg e0, if_neg e1, if_neg e2, if_neg e3, if_neg e4, if_neg e5, if_neg e6, if_neg e7])
theorem DT.congr {α : Type} {F G : Mem → Option (α × Mem)} {P : α → Cf → Rn → Prop} (h : DT F C V P) (hG : ∀ S, KS S C V → G S = F S) : DT G C V P := by
  obtain ⟨z, C', V', h1, h2, h3⟩ := h
  exact ⟨z, C', V', h1, h2, fun S hS => by rw [hG S hS]; exact h3 S hS⟩
/-- low answers what is asked of it, if the divisor isn't 0 -/
theorem a_low {x n : Int32} (hn : n ≠ 0) : ∃ r : Int32, ∀ (S : Mem), f_L_low fu x n S = some r := by
  refine ⟨(x &&& 2147483647) - (x &&& 2147483647) / n * n, fun S => ?_⟩
  unfold f_L_low
  rw [gdt]
  rw [Bool.not_eq_true', beq_eq_false_iff_ne]
  exact hn
/-- .. from 0 to below the divisor -/
theorem low_b {x : Int32} {n : Int} (hn : 0 < n ∧ n < 100000) : ∃ r : Int, (0 ≤ r ∧ r < n) ∧ ∀ (S : Mem), f_L_low fu x (i32 n) S = some (i32 r) := by
  have hne : i32 n ≠ 0 := fun z => by
    have := (q_eq (by omega) (by omega) (by omega) (by omega)).mp (z.trans q_0)
    omega
  have ha : 0 ≤ (x &&& 2147483647).toInt := by
    obtain ⟨j, hj, e⟩ := pk_andE x (m := 2147483647) 31 (by decide)
    rw [e, nI_toInt hj]
    omega
  have hb := q_rng (x &&& 2147483647)
  refine ⟨(x &&& 2147483647).toInt.tmod n, ⟨Int.tmod_nonneg n ha, Int.tmod_lt_of_pos _ hn.1⟩, fun S => ?_⟩
  have e : f_L_low fu x (i32 n) S = some ((x &&& 2147483647) - (x &&& 2147483647) / i32 n * i32 n) := by
    unfold f_L_low
    rw [gdt]
    rw [Bool.not_eq_true', beq_eq_false_iff_ne]
    exact hne
  rw [e]
  generalize (x &&& 2147483647) = y at *
  have := s_rem (a := y.toInt) (c := n) hb.1 hb.2 hn.1 (by omega)
  rw [q_self] at this
  rw [this]
end DO
