/-! improve: rounds. -/
theorem bo_or (a b : Bool) : (bo a ||| bo b) = bo (a || b) := by cases a <;> cases b <;> decide +kernel
section IQ
variable {fu : Nat} {V : Rn}
end IQ
