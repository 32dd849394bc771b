/-! THE RELATION of the two memories: settings C, the running V. -/
abbrev Cf : Type := Nat × Int × (Nat → Nat → Nat) × (Nat → Nat → Int) × (Nat → Nat → Int) × (Nat → Int) × (Nat → Int) × (Nat → Int)
abbrev cJ (C : Cf) : Nat := C.1
abbrev cCy (C : Cf) : Int := C.2.1
abbrev cS (C : Cf) : Nat → Nat → Nat := C.2.2.1
abbrev cC (C : Cf) : Nat → Nat → Int := C.2.2.2.1
abbrev cF (C : Cf) : Nat → Nat → Int := C.2.2.2.2.1
abbrev cO (C : Cf) : Nat → Int := C.2.2.2.2.2.1
abbrev cLs (C : Cf) : Nat → Int := C.2.2.2.2.2.2.1
abbrev cLr (C : Cf) : Nat → Int := C.2.2.2.2.2.2.2
abbrev Bus : Type := Int × Nat × Nat × Int
abbrev Rn : Type := Bool × Int × Int × Int × Int × (Nat → Int) × (Nat → Int) × (Nat → List Int) × (Nat → Option Bus)
abbrev vB (V : Rn) : Bool := V.1
abbrev vK (V : Rn) : Int := V.2.1
abbrev vA (V : Rn) : Int := V.2.2.1
abbrev vM (V : Rn) : Int := V.2.2.2.1
abbrev vT (V : Rn) : Int := V.2.2.2.2.1
abbrev vQ (V : Rn) : Nat → Int := V.2.2.2.2.2.1
abbrev vR (V : Rn) : Nat → Int := V.2.2.2.2.2.2.1
abbrev vW (V : Rn) : Nat → List Int := V.2.2.2.2.2.2.2.1
abbrev vU (V : Rn) : Nat → Option Bus := V.2.2.2.2.2.2.2.2
def okC (C : Cf) : Prop := 2 ≤ cJ C ∧ cJ C ≤ 5 ∧ 30 ≤ cCy C ∧ cCy C ≤ 90 ∧ (∀ k, k < cJ C → okJ (cS C k) (cC C k) (cF C k) (cCy C) ∧ 0 ≤ cO C k ∧ cO C k < cCy C) ∧ ∀ k, k + 1 < cJ C → 1 ≤ cLs C k ∧ cLs C k ≤ 60 ∧ 1 ≤ cLr C k ∧ cLr C k ≤ 40
def kcC (S : Mem) (C : Cf) : Prop := S.1 1 0 1 = i32 (cJ C : Int) ∧ S.1 1 0 2 = i32 (cCy C) ∧ (∀ k, k < cJ C → SJ S k (cS C k) (cC C k) (cF C k) (cCy C) ∧ PLN S k (cS C k) (cC C k) (cF C k) (cCy C) ∧ S.1 3 k 9 = i32 (cO C k)) ∧ ∀ k, k + 1 < cJ C → S.1 4 k 1 = i32 (cLs C k) ∧ S.1 4 k 2 = i32 (cLr C k)
/-- how many vehicles of a link have their end at a place of the ring -/
def cnt (w : List Int) (r : Nat) : Nat := w.countP (fun e => decide (e % 61 = (r : Int)))
def okV (C : Cf) (V : Rn) : Prop := 0 ≤ vK V ∧ vK V ≤ 7200 ∧ 0 ≤ vA V ∧ vA V < 3600 ∧ 0 ≤ vM V ∧ vM V ≤ vK V ∧ 0 ≤ vT V ∧ vT V ≤ vK V ∧ (∀ k, k < cJ C → 0 ≤ vQ V k ∧ vQ V k ≤ 7200 ∧ 0 ≤ vR V k ∧ vR V k ≤ 2) ∧ vQ V 0 ≤ vM V ∧ (∀ k, k + 1 < cJ C → ((vW V k).length : Int) + vQ V (k + 1) ≤ cLr C k ∧ (∀ e, e ∈ vW V k → vK V ≤ e ∧ e < vK V + cLs C k) ∧ (vW V k).Pairwise (· < ·)) ∧ (vB V = false → vK V = 0 ∧ ∀ k, k < cJ C → vQ V k = 0 ∧ vR V k = 0 ∧ vW V k = [] ∧ vU V k = none) ∧ ∀ k, k < cJ C → ∀ b, vU V k = some b → 0 ≤ lef (cS C k) (cC C k) (cCy C) ∧ b.1 * cCy C + cO C k ≤ vK V ∧ -1 ≤ b.1 ∧ b.1 ≤ 7200 ∧ b.2.1 < mny (cS C k) ∧ b.2.2.1 < mny (cS C k) ∧ 0 ≤ b.2.2.2 ∧ b.2.2.2 ≤ 5 ∧ (b.2.2.2 ≠ 0 → b.2.2.1 ≠ b.2.1 ∧ b.2.2.2 ≤ grn (cS C k) (cC C k) (cF C k) (cCy C) b.2.2.1 - lst (cS C k) b.2.2.1)
def kcU (S : Mem) (k : Nat) (cy o : Int) (u : Option Bus) : Prop := match u with
  | none => S.1 3 k 13 = i32 0
  | some b => S.1 3 k 13 = i32 (b.1 * cy + o + cy) ∧ S.1 3 k 15 = i32 (b.2.1 : Int) ∧ S.1 3 k 16 = i32 b.2.2.2 ∧ ∃ a : Int, S.1 3 k 14 = i32 a ∧ -1 ≤ a ∧ a < 4 ∧ (b.2.2.2 ≠ 0 → a = b.2.2.1)
def kcV (S : Mem) (C : Cf) (V : Rn) : Prop := S.1 6 0 1 = i32 (vK V) ∧ S.1 6 0 2 = i32 (vA V) ∧ S.1 6 0 3 = i32 (vM V) ∧ S.1 6 0 4 = i32 (vT V) ∧ S.1 6 0 5 = bo (vB V) ∧ (∀ k, k < cJ C → S.1 3 k 11 = i32 (vQ V k) ∧ S.1 3 k 12 = i32 (vR V k) ∧ kcU S k (cCy C) (cO C k) (vU V k)) ∧ ∀ k, k + 1 < cJ C → S.1 4 k 3 = i32 ((vW V k).length : Int) ∧ ∀ r, r < 61 → S.1 17 k r = i32 (cnt (vW V k) r : Int)
section OPS
variable {fu : Nat} {S SR : Mem} {C : Cf} {V : Rn}
theorem s_at {a : Int} (hj : cJ C ≤ 5) (h : S.1 1 0 1 = i32 (cJ C : Int)) (ha : -2147483648 ≤ a ∧ a < 2147483648) : fx_X1_at fu (i32 a) S = if 0 ≤ a ∧ a < cJ C then some (.inr a.toNat) else some (.inl 3) := by
  unfold fx_X1_at fx_X1_at_30
  rw [q_0, h]
  by_cases h1 : a < 0
  · rw [ltT h1 (by omega) (by omega), if_neg (by omega)]
  · rw [ltF (by omega) (by omega) (by omega)]
    by_cases h2 : (cJ C : Int) ≤ a
    · rw [leT h2 (by omega) (by omega), if_neg (by omega)]
    · rw [leF (by omega) (by omega) (by omega), nI_i, leF (by omega) (by omega) (by omega), gdt (q_inb (by omega) (by omega) (by omega)), gdt (q_inb (by omega) (by omega) (by omega)), q_nat (by omega) (by omega), if_pos (by omega)]
theorem s_at' {k : Nat} (hj : cJ C ≤ 5) (h : S.1 1 0 1 = i32 (cJ C : Int)) (hk : k < cJ C) : f_X1_at fu (i32 (k : Int)) S = some k := by
  unfold f_X1_at
  rw [q_0, h, ltF (by omega) (by omega) (by omega), leF (by omega) (by omega) (by omega), nI_i, leF (by omega) (by omega) (by omega), gdt (q_inb (by omega) (by omega) (by omega)), gdt (q_inb (by omega) (by omega) (by omega)), q_nat (by omega) (by omega), show ((k : Int)).toNat = k by omega]
end OPS
