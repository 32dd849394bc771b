/-! Questions about the plan. -/
section ASK
variable {fu : Nat} {S SR : Mem} {C : Cf} {V : Rn}
theorem lef_dec (s : Nat → Nat) (c : Nat → Int) (cy : Int) : (if lef s c cy < 0 then (0 : Int32) else 1) = bo (decide (0 ≤ lef s c cy)) := by
  by_cases h : lef s c cy < 0
  · rw [if_pos h, decide_eq_false (by omega)]; rfl
  · rw [if_neg h, decide_eq_true (by omega)]; rfl
theorem k_plan {k : Nat} (h2 : kcC S C) (hk : k < cJ C) : S.1 3 k 10 = bo (decide (0 ≤ lef (cS C k) (cC C k) (cCy C))) := by
  rw [(h2.2.2.1 k hk).2.1.2.1, lef_dec]
theorem s_checkPlan {k : Nat} (h2 : kcC S C) (hk : k < cJ C) : fx_X7_checkPlan fu k S = if 0 ≤ lef (cS C k) (cC C k) (cCy C) then some (.inr ()) else some (.inl 2) := by
  unfold fx_X7_checkPlan
  rw [k_plan h2 hk]
  by_cases e : 0 ≤ lef (cS C k) (cC C k) (cCy C)
  · rw [decide_eq_true e, boT rfl, if_pos e]
  · rw [decide_eq_false e, boF rfl, if_neg e]
theorem s_checkMovement {a : Int} (ha : -2147483648 ≤ a ∧ a < 2147483648) : fx_X7_checkMovement fu (i32 a) S = if 0 ≤ a ∧ a < 4 then some (.inr ()) else some (.inl 3) := by
  unfold fx_X7_checkMovement fx_X7_checkMovement_9
  rw [q_0, q_4]
  by_cases h1 : a < 0
  · rw [ltT h1 (by omega) (by omega), if_neg (by omega)]
  · rw [ltF (by omega) (by omega) (by omega)]
    by_cases h2 : a < 4
    · rw [ltT h2 (by omega) (by omega), if_pos (by omega)]
    · rw [ltF (by omega) (by omega) (by omega), if_neg (by omega)]
theorem s_checkPhase {k : Nat} {a : Int} (h2 : kcC S C) (hk : k < cJ C) (ha : -2147483648 ≤ a ∧ a < 2147483648) : fx_X7_checkPhase fu k (i32 a) S = if 0 ≤ a ∧ a < mny (cS C k) then some (.inr ()) else some (.inl 3) := by
  have hm := mny_le (cS C k)
  unfold fx_X7_checkPhase fx_X7_checkPhase_12
  rw [q_0, (h2.2.2.1 k hk).1.1]
  by_cases h1 : a < 0
  · rw [ltT h1 (by omega) (by omega), if_neg (by omega)]
  · rw [ltF (by omega) (by omega) (by omega)]
    by_cases h2 : a < mny (cS C k)
    · rw [ltT h2 (by omega) (by omega), if_pos (by omega)]
    · rw [ltF (by omega) (by omega) (by omega), if_neg (by omega)]
end ASK
