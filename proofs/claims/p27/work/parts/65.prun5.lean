/-! run: one junction, one second, some seconds. -/
section RV
variable {fu : Nat} {S SR : Mem}
theorem okD.sent {C : Cf} {K A M T T' : Int} {Q Q' R R' : Nat → Int} {W : Nat → List Int} {l k : Nat} (ho : okD C K A M T Q R W l k) (hk : k < cJ C) (hT : T' = T ∨ (T' = T + 1 ∧ k + 1 = cJ C)) (hQ : ∀ j, j < cJ C → 0 ≤ Q' j ∧ Q' j ≤ Q j) (hR : ∀ j, j < cJ C → 0 ≤ R' j ∧ R' j ≤ 2) (hj : 0 < cJ C) : okD C K A M T' Q' R' W l (k + 1) := by
  obtain ⟨o1, o2, o3, o4, o5, o6, o7, o8, o9, o10, o11, o12⟩ := ho
  rw [if_neg (by omega)] at o8
  refine ⟨o1, o2, o3, o4, o5, o6, by omega, ?_, fun j h => ?_, hR, ?_, fun j h => ?_⟩
  · by_cases e : k + 1 = cJ C
    · rw [if_pos e]; omega
    · rw [if_neg e]; omega
  · have := hQ j h
    have := o9 j h
    omega
  · have := hQ 0 hj
    omega
  · obtain ⟨z1, z2, z3⟩ := o12 j h
    have := hQ (j + 1) h
    refine ⟨by omega, fun e he => ?_, z3⟩
    have h2 := z2 e he
    refine ⟨h2.1, ?_⟩
    by_cases e1 : j < k
    · rw [if_pos e1] at h2
      rw [if_pos (by omega)]
      exact h2.2
    · rw [if_neg e1] at h2
      split <;> omega
end RV
