/-! setLink, setPhases. -/
theorem anyF_iff (f : Nat → Bool) : ∀ d i, anyF f d i = true ↔ ∃ j, i ≤ j ∧ j < i + d ∧ f j = true
  | 0, i => by
    constructor
    · intro h; cases h
    · rintro ⟨j, h1, h2, -⟩; omega
  | d + 1, i => by
    rw [anyF, Bool.or_eq_true, anyF_iff f d (i + 1)]
    constructor
    · rintro (h | ⟨j, h1, h2, h3⟩)
      · exact ⟨i, by omega, by omega, h⟩
      · exact ⟨j, by omega, by omega, h3⟩
    · rintro ⟨j, h1, h2, h3⟩
      by_cases e : j = i
      · subst e; exact Or.inl h3
      · exact Or.inr ⟨j, by omega, by omega, h3⟩
/-- two movements of the set that conflict -/
def badq (c : Nat → Int) (a q : Nat) : Bool := a.testBit (q / 4) && a.testBit (q % 4) && decide (c q ≠ -1)
def bad (c : Nat → Int) (a : Nat) : Bool := anyF (badq c a) 16 0
theorem gcf_bad {c : Nat → Int} {a : Nat} (hc : ∀ q, q < 16 → -1 ≤ c q) : ∀ n, n ≤ 16 → -1 ≤ gcf c a a n ∧ (gcf c a a n = -1 ↔ ∀ q, q < n → badq c a q = false)
  | 0, _ => by
    refine ⟨by show (-1 : Int) ≤ -1; omega, ⟨fun _ q hq => absurd hq (by omega), fun _ => rfl⟩⟩
  | n + 1, h => by
    obtain ⟨h1, h2⟩ := gcf_bad (a := a) hc n (by omega)
    have h3 := hc n (by omega)
    have e : gcf c a a (n + 1) = if a.testBit (n / 4) = true ∧ a.testBit (n % 4) = true then imx (gcf c a a n) (c n) else gcf c a a n := rfl
    have hq : (∀ q, q < n + 1 → badq c a q = false) ↔ (∀ q, q < n → badq c a q = false) ∧ badq c a n = false := by
      constructor
      · intro z; exact ⟨fun q hq => z q (by omega), z n (by omega)⟩
      · rintro ⟨z1, z2⟩ q hq
        by_cases eq : q = n
        · subst eq; exact z2
        · exact z1 q (by omega)
    rw [e, hq, ← h2]
    by_cases hb : a.testBit (n / 4) = true ∧ a.testBit (n % 4) = true
    · rw [if_pos hb]
      have hg := @imx_ge (gcf c a a n) (c n)
      refine ⟨by omega, ?_⟩
      unfold badq
      rw [hb.1, hb.2, Bool.true_and, Bool.true_and, decide_eq_false_iff_not]
      rcases imx_cases (gcf c a a n) (c n) with z | z <;> rw [z] at hg ⊢ <;> omega
    · rw [if_neg hb]
      refine ⟨h1, ?_⟩
      have : badq c a n = false := by
        unfold badq
        cases z1 : a.testBit (n / 4) with
        | false => rfl
        | true =>
          cases z2 : a.testBit (n % 4) with
          | false => rfl
          | true => exact absurd ⟨z1, z2⟩ hb
      simp [this]
section BD
variable {fu k : Nat} {s : Nat → Nat} {c f : Nat → Int} {cy : Int} {S : Mem}
theorem s_conf (hfu : 8 ≤ fu) (hJ : SJ S k s c f cy) (ho : okJ s c f cy) {a : Nat} (ha : a < 16) : f_X3_hasConflictIn fu k (i32 (a : Int)) S = some (bo (bad c a)) := by
  unfold f_X3_hasConflictIn f_X3_hasConflictIn_15
  have hg := gcf_b (a := a) (b := a) ho.2.1 16 (by omega)
  obtain ⟨h1, h2⟩ := gcf_bad (a := a) (fun q hq => (ho.2.1 q hq).1) 16 (by omega)
  rw [s_gc hfu ha ha hJ.2.2.2.1 ho.2.1, b1s]
  unfold bad
  cases hb : anyF (badq c a) 16 0 with
  | false =>
    have : gcf c a a 16 = -1 := h2.mpr (fun q hq => by
      cases hz : badq c a q with
      | false => rfl
      | true => have := (anyF_iff (badq c a) 16 0).mpr ⟨q, by omega, by omega, hz⟩; rw [hb] at this; cases this)
    rw [this, ← q_m1, if_pos rfl, nb_0]; rfl
  | true =>
    obtain ⟨q, -, hq, hz⟩ := (anyF_iff (badq c a) 16 0).mp hb
    have : gcf c a a 16 ≠ -1 := fun z => by
      have := h2.mp z q (by omega)
      rw [hz] at this; cases this
    rw [if_neg (fun z => this ((q_eq (by omega) (by omega) (by omega) (by omega)).mp (z.trans q_m1))), nb_1]; rfl
end BD
