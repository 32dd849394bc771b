/-! isGreen, phaseNow, breaches, held. -/
section LK
variable {fu : Nat} {S SR : Mem} {C : Cf} {V : Rn}
theorem s_isLast {a : Int} (hj : 2 ≤ cJ C ∧ cJ C ≤ 5) (h : S.1 1 0 1 = i32 (cJ C : Int)) (ha : -2147483648 ≤ a ∧ a < 2147483648) : f_X1_isLast fu (i32 a) S = some (bo (decide (a + 1 = cJ C))) := by
  unfold f_X1_isLast f_X1_isLast_15
  rw [h, q_1, q_sub]
  by_cases e : a = (cJ C : Int) - 1
  · rw [eqT e, decide_eq_true (by omega), ← q_1, nb_1]; rfl
  · rw [eqF e (by omega) (by omega) (by omega) (by omega), decide_eq_false (by omega), nb_0]; rfl
theorem s_linkFrom {a : Int} (hj : 2 ≤ cJ C ∧ cJ C ≤ 5) (h : S.1 1 0 1 = i32 (cJ C : Int)) (ha : -2147483648 ≤ a ∧ a < 2147483648) : fx_X1_linkFrom fu (i32 a) S = if 0 ≤ a ∧ a + 1 < cJ C then some (.inr a.toNat) else some (.inl 3) := by
  unfold fx_X1_linkFrom
  rw [s_at hj.2 h ha]
  by_cases e : 0 ≤ a ∧ a < cJ C
  · rw [if_pos e, bxr, s_isLast hj h ha, b1s]
    by_cases e2 : a + 1 = cJ C
    · rw [boT (decide_eq_true e2), if_neg (by omega)]
    · rw [boF (decide_eq_false e2), if_pos (by omega)]
  · rw [if_neg e, bxl, if_neg (by omega)]
theorem s_linkFrom' {k : Nat} (hj : 2 ≤ cJ C ∧ cJ C ≤ 5) (h : S.1 1 0 1 = i32 (cJ C : Int)) (hk : k + 1 < cJ C) : f_X1_linkFrom fu (i32 (k : Int)) S = some k := by
  unfold f_X1_linkFrom
  rw [s_at' hj.2 h (by omega), b1s, s_isLast hj h (by omega), b1s, boF (decide_eq_false (by omega))]
end LK
