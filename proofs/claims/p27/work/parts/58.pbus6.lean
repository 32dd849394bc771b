/-! callBus, put together. -/
theorem phB_none {s : Nat → Nat} {c f : Nat → Int} {cy o t : Int} {u : Option Bus} (h : (act cy o t u).isSome = false) : phB s c f cy o t u = phB s c f cy o t none := by
  have e : act cy o t u = none := by
    cases hz : act cy o t u with
    | none => rfl
    | some b => rw [hz] at h; cases h
  unfold phB
  rw [e]
  rfl
