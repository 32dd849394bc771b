/-! All plans at once. -/
def plA (C : Cf) : Nat → Nat → Bool
  | 0, _ => true
  | d + 1, k => decide (0 ≤ lef (cS C k) (cC C k) (cCy C)) && plA C d (k + 1)
theorem plA_all {C : Cf} : ∀ d k, plA C d k = true → ∀ j, k ≤ j → j < k + d → 0 ≤ lef (cS C j) (cC C j) (cCy C)
  | 0, k, _, j, h1, h2 => absurd h1 (by omega)
  | d + 1, k, h, j, h1, h2 => by
    rw [plA, Bool.and_eq_true] at h
    by_cases e : j = k
    · subst e; exact of_decide_eq_true h.1
    · exact plA_all d (k + 1) h.2 j (by omega) (by omega)
section PA
variable {fu : Nat} {C : Cf} {V : Rn}
theorem s_isPlanned2 {S : Mem} (h1 : okC C) (h2 : kcC S C) : ∀ d k n : Nat, k + d = cJ C → d < n → f_X1_isPlanned_2 fu S n (i32 (k : Int)) = some (bo (plA C d k)) := by
  intro d
  have hj := h1.2.1
  induction d with
  | zero =>
    intro k n hk hn
    obtain ⟨n, rfl⟩ : ∃ n', n = n' + 1 := ⟨n - 1, by omega⟩
    rw [f_X1_isPlanned_2, h2.1, leT (by omega) (by omega) (by omega), nb_1]
    rfl
  | succ d ih =>
    intro k n hk hn
    obtain ⟨n, rfl⟩ : ∃ n', n = n' + 1 := ⟨n - 1, by omega⟩
    have ih' := ih (k + 1) n (by omega) (by omega)
    rw [f_X1_isPlanned_2, h2.1, leF (by omega) (by omega) (by omega), s_at' h1.2.1 h2.1 (by omega), b1s, k_plan h2 (by omega), plA]
    cases decide (0 ≤ lef (cS C k) (cC C k) (cCy C)) with
    | false => rw [boF rfl, nb_0, Bool.false_and]; rfl
    | true => rw [boT rfl, Bool.true_and, q_1, q_add]; exact ih'
theorem s_checkPlans {S : Mem} (hfu : 20 ≤ fu) (h1 : okC C) (h2 : kcC S C) : fx_X7_checkPlans fu S = if plA C (cJ C) 0 = true then some (.inr ()) else some (.inl 2) := by
  have hj := h1.2.1
  have e : f_X1_isPlanned fu S = some (bo (plA C (cJ C) 0)) := s_isPlanned2 h1 h2 (cJ C) 0 fu (by omega) (by omega)
  unfold fx_X7_checkPlans
  rw [e, b1s]
  cases plA C (cJ C) 0 with
  | false => rw [boF rfl, if_neg (by simp)]
  | true => rw [boT rfl, if_pos rfl]
end PA
section LP
variable {fu k : Nat} {s : Nat → Nat} {c f : Nat → Int} {cy o t : Int} {S : Mem}
/-- the lowest phase that has a movement, -1 for none -/
def lowP (s : Nat → Nat) (m : Nat) : Nat → Nat → Int
  | 0, _ => -1
  | d + 1, p => if (s p).testBit m = true then (p : Int) else lowP s m d (p + 1)
theorem lowP_b (s : Nat → Nat) (m : Nat) : ∀ d p, lowP s m d p = -1 ∨ ∃ q : Nat, p ≤ q ∧ q < p + d ∧ lowP s m d p = (q : Int)
  | 0, _ => Or.inl rfl
  | d + 1, p => by
    rw [lowP]
    split
    · exact Or.inr ⟨p, by omega, by omega, rfl⟩
    · rcases lowP_b s m d (p + 1) with e | ⟨q, h1, h2, h3⟩
      · exact Or.inl e
      · exact Or.inr ⟨q, by omega, by omega, h3⟩
theorem s_low2 (hJ : SJ S k s c f cy) (ho : okJ s c f cy) {m : Nat} (hm : m < 4) : ∀ d p n : Nat, p + d = mny s → d < n → f_X3_lowestPhaseWith_2 fu k (i32 (m : Int)) S n (i32 (p : Int)) = some (i32 (lowP s m d p)) := by
  intro d
  have hmn := mny_le s
  induction d with
  | zero =>
    intro p n hp hn
    obtain ⟨n, rfl⟩ : ∃ n', n = n' + 1 := ⟨n - 1, by omega⟩
    rw [f_X3_lowestPhaseWith_2, hJ.1, leT (by omega) (by omega) (by omega), q_m1]
    rfl
  | succ d ih =>
    intro p n hp hn
    obtain ⟨n, rfl⟩ : ∃ n', n = n' + 1 := ⟨n - 1, by omega⟩
    rw [f_X3_lowestPhaseWith_2, hJ.1, leF (by omega) (by omega) (by omega), s_read (by omega) (by omega) (by omega), b1s, show ((p : Int)).toNat = p by omega, hJ.2.2.1 p (by omega), s_hasBit (ho.1 p (by omega)) hm, b1s, lowP]
    cases (s p).testBit m with
    | false => rw [boF rfl, if_neg (by simp), q_1, q_add]; exact ih (p + 1) n (by omega) (by omega)
    | true => rw [boT rfl, if_pos rfl]
end LP
