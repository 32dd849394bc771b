/-! run: a junction, a second, seconds. -/
section RW
variable {fu : Nat} {S SR : Mem}
theorem okD.tick {C : Cf} {K A M T : Int} {Q R : Nat → Int} {W : Nat → List Int} (hj : 2 ≤ cJ C) (hK : K < 7200) (ho : okD C K A M T Q R W (cJ C) (cJ C)) : okD C (K + 1) A M T Q R W 0 0 := by
  obtain ⟨o1, o2, o3, o4, o5, o6, o7, o8, o9, o10, o11, o12⟩ := ho
  rw [if_pos (by omega)] at o6
  rw [if_pos rfl] at o8
  refine ⟨by omega, by omega, o3, o4, o5, ?_, o7, ?_, o9, o10, o11, fun j h => ?_⟩
  · rw [if_neg (by omega)]; omega
  · rw [if_neg (by omega)]; omega
  · obtain ⟨z1, z2, z3⟩ := o12 j h
    refine ⟨z1, fun e he => ?_, z3⟩
    have := z2 e he
    rw [if_pos (by omega), if_pos (by omega)] at this
    rw [if_neg (by omega), if_neg (by omega)]
    omega
end RW
