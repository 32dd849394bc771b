/-! the model's bands. -/
theorem al_cg {h g : Nat → Bool} : ∀ d k, (∀ j, k ≤ j → j < k + d → h j = g j) → al h d k = al g d k
  | 0, _, _ => rfl
  | d + 1, k, e => by rw [al, al, e k (by omega) (by omega), al_cg d (k + 1) (fun j h1 h2 => e j (by omega) (by omega))]
theorem al_rev (h : Nat → Bool) (J : Nat) : al (fun i => h (J - 1 - i)) J 0 = al h J 0 := by
  rw [Bool.eq_iff_iff, al_iff, al_iff]
  constructor
  · intro g j h1 h2
    have := g (J - 1 - j) (by omega) (by omega)
    rw [show J - 1 - (J - 1 - j) = j by omega] at this
    exact this
  · intro g j h1 h2
    exact g (J - 1 - j) (by omega) (by omega)
theorem aF_m (C : Cf) (O : Nat → Int) (t : Nat) : al (fun j => gF C j (O j) t) (cJ C) 0 = aF C O (-1) t := al_cg _ _ (fun j _ _ => by rw [decide_eq_false (by omega), Bool.false_or])
theorem aB_m (C : Cf) (O : Nat → Int) (t : Nat) : al (fun j => gB C j (O j) t) (cJ C) 0 = aB C O (-1) t := al_cg _ _ (fun j _ _ => by rw [decide_eq_false (by omega), Bool.false_or])
section BD
variable {fu : Nat} {S : Mem} {C : Cf} {O : Nat → Int}
/-- both bands together -/
def bsum (C : Cf) (n : Nat) (O : Nat → Int) : Int := cntF (aF C O (-1)) n 0 + cntF (aB C O (-1)) n 0
end BD
