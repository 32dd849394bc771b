/-! run: vehicles that come at the junction 0. -/
theorem q_3600 : (3600 : Int32) = i32 3600 := rfl
theorem n_0 : (0 : Int32).toNatClampNeg = 0 := rfl
def upI (f : Nat → Int) (k : Nat) (v : Int) : Nat → Int := fun j => if j = k then v else f j
theorem upI_s {f : Nat → Int} {k : Nat} {v : Int} : upI f k v k = v := if_pos rfl
theorem upI_n {f : Nat → Int} {k j : Nat} {v : Int} (h : j ≠ k) : upI f k v j = f j := if_neg h
section CM
variable {fu : Nat} {S SR : Mem}
theorem s_come {A M Q f : Int} (hA : S.1 6 0 2 = i32 A) (hM : S.1 6 0 3 = i32 M) (hQ : S.1 3 0 11 = i32 Q) (hF : S.1 13 0 0 = i32 f) (h1 : 0 ≤ A ∧ A < 3600) (h2 : 0 ≤ f ∧ f ≤ 1800) : ∃ S' : Mem, f_X6_letCome fu 0 S = some ((), S') ∧ S'.1 6 0 2 = i32 (if A + f < 3600 then A + f else A + f - 3600) ∧ S'.1 6 0 3 = i32 (if A + f < 3600 then M else M + 1) ∧ S'.1 3 0 11 = i32 (if A + f < 3600 then Q else Q + 1) ∧ ∀ a b i, ¬ (a = 6 ∧ b = 0 ∧ (i = 2 ∨ i = 3)) → ¬ (a = 3 ∧ b = 0 ∧ i = 11) → S'.1 a b i = S.1 a b i := by
  have e : f_X7_read fu 13 4 0 0 S = some (i32 f) := by
    rw [← hF]
    exact s_read (a := 0) (by omega) (by omega) (by omega)
  unfold f_X6_letCome f_X6_letCome_56 f_X3_flowOf
  rw [e, b1s, b1s, hA, q_add, w_eq, q_3600]
  by_cases h : A + f < 3600
  · rw [ltT h (by omega) (by omega)]
    simp only [if_pos h]
    exact ⟨_, rfl, w_eq, (w_ne (by omega)).trans hM, (w_ne (by omega)).trans hQ, fun a b i q1 q2 => w_ne (by omega)⟩
  · rw [ltF (by omega) (by omega) (by omega)]
    simp only [if_neg h]
    refine ⟨_, rfl, ?_, ?_, ?_, fun a b i q1 q2 => ?_⟩
    · rw [w_ne (by omega), w_ne (by omega), w_eq, q_sub]
    · rw [w_eq, w_ne (by omega), w_ne (by omega), w_ne (by omega), hM, q_1, q_add]
    · rw [w_ne (by omega), w_eq, w_ne (by omega), w_ne (by omega), hQ, q_1, q_add]
    · rw [w_ne (by omega), w_ne (by omega), w_ne (by omega), w_ne (by omega)]
end CM
