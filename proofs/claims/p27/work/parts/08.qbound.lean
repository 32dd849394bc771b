/-! bounds of the numbers that answers are -/
theorem lt8a {k : Nat} (h : k < 4) : 2 * k < 8 := by omega
theorem lt8b {k : Nat} (h : k < 4) : 2 * k + 1 < 8 := by omega
theorem b_X1_at {fu : Nat} {x : Int32} {S : Mem} {r : Nat} (h : f_X1_at fu x S = some r) : r < 5 := by
  rw [f_X1_at] at h
  by_cases c1 : x < 0
  · rw [if_pos c1] at h; cases h
  · rw [if_neg c1] at h
    by_cases c2 : S.1 1 0 1 ≤ x
    · rw [if_pos c2] at h; cases h
    · rw [if_neg c2] at h
      by_cases c3 : nI 5 ≤ x
      · rw [if_pos c3] at h; cases h
      · rw [if_neg c3] at h
        obtain ⟨h1, h⟩ := gd_some h
        obtain ⟨-, h⟩ := gd_some h
        cases h
        exact inb_lt h1
theorem b_X1_linkFrom {fu : Nat} {x : Int32} {S : Mem} {r : Nat} (h : f_X1_linkFrom fu x S = some r) : r < 5 := by
  rw [f_X1_linkFrom] at h
  obtain ⟨r2, h2, h⟩ := b1_some h
  obtain ⟨r8, h8, h⟩ := b1_some h
  by_cases c : r8 = 0
  · rw [if_pos c] at h; cases h; exact b_X1_at h2
  · rw [if_neg c] at h; cases h
