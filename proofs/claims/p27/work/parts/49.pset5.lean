/-! setPhases. -/
def s4 (a b c d : Nat) (p : Nat) : Nat := if p = 0 then a else if p = 1 then b else if p = 2 then c else d
theorem mny4 (a b c d : Nat) : mny (s4 a b c d) = if b = 0 then 1 else if c = 0 then 2 else if d = 0 then 3 else 4 := rfl
theorem eq0 {a : Nat} {α : Type} {x y : α} (ha : a < 16) : (if i32 (a : Int) = 0 then x else y) = if a = 0 then x else y := by
  by_cases e : a = 0
  · subst e; rw [if_pos rfl]; exact if_pos (show i32 ((0 : Nat) : Int) = 0 from rfl)
  · rw [if_neg (fun z => e (by have := (q_eq (a := (a : Int)) (b := 0) (by omega) (by omega) (by omega) (by omega)).mp z; omega)), if_neg e]
theorem eqz {t : Int} {α : Type} {x y : α} (ht : -2147483648 ≤ t ∧ t < 2147483648) : (if i32 t = 0 then x else y) = if t = 0 then x else y := by
  by_cases e : t = 0
  · subst e; rw [if_pos rfl]; exact if_pos (show i32 0 = 0 from rfl)
  · rw [if_neg (fun z : i32 t = 0 => e ((q_eq (a := t) (b := 0) (by omega) (by omega) (by omega) (by omega)).mp (z.trans q_0))), if_neg e]
