/-! run: landing and ready times on both sides. -/
def lnS (S : Mem) (k p : Nat) : Mem := wI (wI (wI S 17 k p 0) 4 k 3 (S.1 4 k 3 - S.1 17 k p)) 3 (k + 1) 11 (S.1 3 (k + 1) 11 + S.1 17 k p)
def rdy (g : Bool) (r : Int) : Int := if g = true then (if 2 ≤ r then 2 else r + 1) else 0
theorem rdy_b (g : Bool) {r : Int} (h : 0 ≤ r ∧ r ≤ 2) : 0 ≤ rdy g r ∧ rdy g r ≤ 2 := by
  unfold rdy
  split
  · split <;> omega
  · omega
def upW (f : Nat → List Int) (k : Nat) (v : List Int) : Nat → List Int := fun j => if j = k then v else f j
theorem upW_s {f : Nat → List Int} {k : Nat} {v : List Int} : upW f k v k = v := if_pos rfl
theorem upW_n {f : Nat → List Int} {k j : Nat} {v : List Int} (h : j ≠ k) : upW f k v j = f j := if_neg h
section RL
variable {fu : Nat} {S SR : Mem}
/-- is the way forward green -/
def gnw (C : Cf) (K : Int) (U : Nat → Option Bus) (k : Nat) : Bool := (litB (cS C k) (phB (cS C k) (cC C k) (cF C k) (cCy C) (cO C k) K (U k))).testBit 0
end RL
