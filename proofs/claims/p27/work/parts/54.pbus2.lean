/-! callBus: what is asked first, on both sides. -/
section CB
variable {fu k : Nat} {s : Nat → Nat} {c f : Nat → Int} {cy o t : Int} {S : Mem} {u : Option Bus}
theorem cyc_b (hcy : 30 ≤ cy ∧ cy ≤ 90) (hoo : 0 ≤ o ∧ o < cy) (ht : 0 ≤ t ∧ t < 1000000) : -1 ≤ (t - o) / cy ∧ (t - o) / cy < 1000000 := by
  constructor
  · apply Int.le_ediv_of_mul_le (by omega); omega
  · apply Int.ediv_lt_of_lt_mul (by omega)
    have := Int.mul_le_mul_of_nonneg_left (show (1 : Int) ≤ cy by omega) (show (0 : Int) ≤ 1000000 by omega)
    omega
theorem s_hasBus (hcy : 30 ≤ cy ∧ cy ≤ 90) (hoo : 0 ≤ o ∧ o < cy) (ht : 0 ≤ t ∧ t < 1000000) (hu : okU s c f cy o t u) (hU : kcU S k cy o u) : f_X3_hasBusIn fu k (i32 t) S = some (bo (act cy o t u).isSome) := by
  unfold f_X3_hasBusIn f_X3_hasBusIn_13
  cases u with
  | none =>
    have hU : S.1 3 k 13 = i32 0 := hU
    rw [hU, leT (by omega) (by omega) (by omega), nb_0]
    rfl
  | some b =>
    obtain ⟨h13, -⟩ := hU
    obtain ⟨-, hb0, hbn, hbn2, -⟩ := hu b rfl
    have hnow := bus_now (cy := cy) (by omega) hb0
    have hmul : -90 ≤ b.1 * cy ∧ b.1 * cy ≤ 7200 * 90 := by
      constructor
      · have := Int.mul_le_mul_of_nonneg_right hbn (show 0 ≤ cy by omega); omega
      · exact Int.mul_le_mul hbn2 (by omega) (by omega) (by omega)
    rw [h13]
    by_cases e : t < b.1 * cy + o + cy
    · have eact : act cy o t (some b) = some b := if_pos (hnow.mpr e)
      rw [leF e (by omega) (by omega), nb_1, eact]
      rfl
    · have eact : act cy o t (some b) = none := if_neg (fun z => e (hnow.mp z))
      rw [leT (by omega) (by omega) (by omega), nb_0, eact]
      rfl
end CB
