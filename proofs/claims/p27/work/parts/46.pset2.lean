/-! A junction's settings change: both sides at once. -/
def frN (k : Nat) (S S' : Mem) : Prop := (∀ a b i : Nat, (b ≠ 0 ∨ ((a ≠ 20 ∨ i / 16 ≠ k) ∧ (a ≠ 21 ∨ i / 4 ≠ k) ∧ (a ≠ 22 ∨ i ≠ k) ∧ (a ≠ 23 ∨ i / 4 ≠ k) ∧ (a ≠ 8 ∨ i ≠ 0))) → S'.1 a b i = S.1 a b i) ∧ S'.2 = S.2
theorem frN.trans {k : Nat} {S S' S2 : Mem} (h : frN k S S') (h' : frN k S' S2) : frN k S S2 := ⟨fun a b i hq => (h'.1 a b i hq).trans (h.1 a b i hq), h'.2.trans h.2⟩
theorem frN.w {k c j : Nat} {v : Int32} {S : Mem} (h : (c = 20 ∧ j / 16 = k) ∨ (c = 21 ∧ j / 4 = k) ∨ (c = 22 ∧ j = k) ∨ (c = 23 ∧ j / 4 = k) ∨ (c = 8 ∧ j = 0)) : frN k S (wI S c 0 j v) := ⟨fun a b i hq => w_ne (by omega), rfl⟩
def updC (C : Cf) (k : Nat) (s : Nat → Nat) (c f : Nat → Int) : Cf := (cJ C, cCy C, va_up (cS C) k s, va_up (cC C) k c, va_up (cF C) k f, cO C, cLs C, cLr C)
