/-! Phases now, lights, buses. -/
theorem pha_b {g c : Nat → Int} : ∀ (d p : Nat) (x : Int), pha g c d p x = -1 ∨ ∃ q : Nat, p ≤ q ∧ q < p + d ∧ pha g c d p x = (q : Int)
  | 0, _, _ => Or.inl rfl
  | d + 1, p, x => by
    rw [pha]
    by_cases h : x < g p
    · rw [if_pos h]; exact Or.inr ⟨p, by omega, by omega, rfl⟩
    · rw [if_neg h]
      by_cases h2 : x < g p + c p
      · rw [if_pos h2]; exact Or.inl rfl
      · rw [if_neg h2]
        rcases pha_b d (p + 1) (x - (g p + c p)) with e | ⟨q, h1, h2, h3⟩
        · exact Or.inl e
        · exact Or.inr ⟨q, by omega, by omega, h3⟩
theorem lit_lt {s : Nat → Nat} {c f : Nat → Int} {cy : Int} (ho : okJ s c f cy) (x : Int) : lit s c f cy x < 16 := by
  have hm := mny_le s
  unfold lit
  split
  · omega
  · rcases pha_b (g := grn s c f cy) (c := clr s c) (mny s) 0 x with e | ⟨q, h1, h2, h3⟩
    · contradiction
    · rw [h3, show ((q : Int)).toNat = q by omega]
      exact ho.1 q (by omega)
/-- what a bus has to be, at second t -/
def okU (s : Nat → Nat) (c f : Nat → Int) (cy o t : Int) (u : Option Bus) : Prop := ∀ b, u = some b → 0 ≤ lef s c cy ∧ b.1 * cy + o ≤ t ∧ -1 ≤ b.1 ∧ b.1 ≤ 7200 ∧ b.2.1 < mny s ∧ b.2.2.1 < mny s ∧ 0 ≤ b.2.2.2 ∧ b.2.2.2 ≤ 5 ∧ (b.2.2.2 ≠ 0 → b.2.2.1 ≠ b.2.1 ∧ b.2.2.2 ≤ grn s c f cy b.2.2.1 - lst s b.2.2.1)
def gBu (g : Nat → Int) (u : Option Bus) (p : Nat) : Int := match u with
  | none => g p
  | some b => g p + (if (p : Int) = (b.2.1 : Int) then b.2.2.2 else 0) - (if (p : Int) = (b.2.2.1 : Int) then b.2.2.2 else 0)
theorem gBu_some (g : Nat → Int) (b : Bus) (p : Nat) : gBu g (some b) p = g p + (if (p : Int) = (b.2.1 : Int) then b.2.2.2 else 0) - (if (p : Int) = (b.2.2.1 : Int) then b.2.2.2 else 0) := rfl
def act (cy o t : Int) (u : Option Bus) : Option Bus := match u with
  | none => none
  | some b => if (t - o) / cy = b.1 then some b else none
/-- the phase at second t, with what a bus changed -/
def phB (s : Nat → Nat) (c f : Nat → Int) (cy o t : Int) (u : Option Bus) : Int := pha (gBu (grn s c f cy) (act cy o t u)) (clr s c) (mny s) 0 ((t - o) % cy)
section PB
variable {fu k : Nat} {s : Nat → Nat} {c f : Nat → Int} {cy o t : Int} {S : Mem} {u : Option Bus}
theorem grn_b (ho : okJ s c f cy) (h0 : 0 ≤ lef s c cy) {p : Nat} (hp : p < mny s) : 0 ≤ grn s c f cy p ∧ grn s c f cy p ≤ 90 := by
  have h1 := grn_nn (f := f) h0 p
  have h2 := grn_le (f := f) h0 hp
  have h3 := clr_nn s c p
  have h4 := ho.2.2.2
  omega
theorem gBu_b (ho : okJ s c f cy) (h0 : 0 ≤ lef s c cy) (hu : okU s c f cy o t u) {p : Nat} (hp : p < mny s) : 0 ≤ gBu (grn s c f cy) (act cy o t u) p ∧ gBu (grn s c f cy) (act cy o t u) p ≤ 200 := by
  have hg := grn_b ho h0 hp
  have hl := lst_b s p
  unfold act
  cases u with
  | none => exact ⟨hg.1, by show grn s c f cy p ≤ 200; omega⟩
  | some b =>
    obtain ⟨-, -, -, -, hb1, hb2, hb3, hb4, hb5⟩ := hu b rfl
    by_cases e : (t - o) / cy = b.1
    · simp only [if_pos e]
      unfold gBu
      by_cases e1 : (p : Int) = (b.2.2.1 : Int)
      · have e2 : p = b.2.2.1 := by omega
        simp only [if_pos e1]
        by_cases e3 : b.2.2.2 = 0
        · split <;> omega
        · have := hb5 e3
          rw [← e2] at this
          split <;> omega
      · simp only [if_neg e1]
        split <;> omega
    · simp only [if_neg e]
      exact ⟨hg.1, by show grn s c f cy p ≤ 200; omega⟩
theorem clr_9 (ho : okJ s c f cy) (p : Nat) : clr s c p ≤ 9 := clr_le (fun q hq => (ho.2.1 q hq).2) p
theorem bus_now (hc : 0 < cy) {b : Bus} (h : b.1 * cy + o ≤ t) : (t - o) / cy = b.1 ↔ t < b.1 * cy + o + cy := by
  have h1 := Int.mul_ediv_add_emod (t - o) cy
  have h2 := Int.emod_nonneg (t - o) (show cy ≠ 0 by omega)
  have h3 := Int.emod_lt_of_pos (t - o) hc
  rw [Int.mul_comm] at h1
  constructor
  · intro e
    rw [e] at h1
    omega
  · intro e
    have h4 : b.1 < (t - o) / cy + 1 := by
      apply Int.lt_of_mul_lt_mul_right (a := cy) _ (by omega)
      rw [Int.add_mul]; omega
    have h5 : (t - o) / cy < b.1 + 1 := by
      apply Int.lt_of_mul_lt_mul_right (a := cy) _ (by omega)
      rw [Int.add_mul]; omega
    omega
theorem s_phaseIn (hfu : 8 ≤ fu) (ho : okJ s c f cy) (h0 : 0 ≤ lef s c cy) (hJ : SJ S k s c f cy) (hP : PLN S k s c f cy) (h9 : S.1 3 k 9 = i32 o) (hoo : 0 ≤ o ∧ o < cy) (ht : 0 ≤ t ∧ t < 1000000) (hu : okU s c f cy o t u) (hU : kcU S k cy o u) : f_X3_phaseIn fu k (i32 t) S = some (i32 (phB s c f cy o t u)) := by
  have hcy := ho.2.2.2
  have hm := mny_le s
  have hx1 := Int.emod_nonneg (t - o) (show cy ≠ 0 by omega)
  have hx2 := Int.emod_lt_of_pos (t - o) (show 0 < cy by omega)
  have hg14 := (hP.2.2 h0).1
  unfold f_X3_phaseIn phB
  have go : ∀ fl : Int32, (∀ p, p < mny s → (if fl = 0 then f_X7_read fu 14 4 k (i32 (p : Int)) S else f_X3_changedGreen fu k (i32 (p : Int)) S) = some (i32 (gBu (grn s c f cy) (act cy o t u) p))) → b1 (some fl) (fun r2 => b1 (f_X3_placeInCycle fu k (i32 t) S) fun r8 => f_X3_phaseIn_15 fu k (i32 t) S fu r2 r8 0) = some (i32 (pha (gBu (grn s c f cy) (act cy o t u)) (clr s c) (mny s) 0 ((t - o) % cy))) := by
    intro fl hfl
    rw [b1s, s_place hJ.2.1 h9 (by omega) (by omega) ht, b1s, q_0]
    exact s_ph15 hJ.1 hP.1 (clr_9 ho) (fun p hp => gBu_b ho h0 hu hp) hfl (mny s) 0 fu _ (by omega) (by omega) hx1 (by omega)
  have rd : ∀ p, p < mny s → f_X7_read fu 14 4 k (i32 (p : Int)) S = some (i32 (grn s c f cy p)) := fun p hp => by
    rw [s_read (by omega) (by omega) (by omega), show ((p : Int)).toNat = p by omega, hg14 p hp]
  unfold f_X3_hasBusIn f_X3_hasBusIn_13
  cases u with
  | none =>
    have hU : S.1 3 k 13 = i32 0 := hU
    rw [hU, leT (by omega) (by omega) (by omega), nb_0]
    exact go 0 (fun p hp => by rw [if_pos rfl]; exact rd p hp)
  | some b =>
    obtain ⟨h13, h15, h16, a, h14, ha1, ha2, ha3⟩ := hU
    obtain ⟨-, hb0, hbn, hbn2, hb1, hb2, hb3, hb4, hb5⟩ := hu b rfl
    have hnow := bus_now (cy := cy) (by omega) hb0
    have hmul : -90 ≤ b.1 * cy ∧ b.1 * cy ≤ 7200 * 90 := by
      constructor
      · have := Int.mul_le_mul_of_nonneg_right hbn (show 0 ≤ cy by omega); omega
      · exact Int.mul_le_mul hbn2 (by omega) (by omega) (by omega)
    rw [h13]
    by_cases e : t < b.1 * cy + o + cy
    · rw [leF e (by omega) (by omega), nb_1]
      have eact : act cy o t (some b) = some b := if_pos (hnow.mpr e)
      rw [eact] at go ⊢
      refine go 1 (fun p hp => ?_)
      rw [if_neg (by decide +kernel)]
      unfold f_X3_changedGreen f_X3_changedGreen_32
      rw [h15, h14, h16, q_neg, gBu_some]
      by_cases e1 : (p : Int) = (b.2.1 : Int)
      · rw [eqT e1, rd p hp, b1s, q_add, if_pos e1]
        by_cases e3 : b.2.2.2 = 0
        · rw [e3]
          simp
        · have := (hb5 e3).1
          rw [if_neg (show ¬ (p : Int) = (b.2.2.1 : Int) by omega), Int.sub_zero]
      · rw [eqF e1 (by omega) (by omega) (by omega) (by omega), if_neg e1]
        by_cases e2 : (p : Int) = a
        · rw [eqT e2, rd p hp, b1s, q_add]
          by_cases e3 : b.2.2.2 = 0
          · rw [e3]; simp
          · have := ha3 e3
            rw [if_pos (show (p : Int) = (b.2.2.1 : Int) by omega)]
            congr 2
            omega
        · rw [eqF e2 (by omega) (by omega) (by omega) (by omega), rd p hp, b1s, q_0, q_add]
          by_cases e3 : b.2.2.2 = 0
          · rw [e3]; simp
          · have := ha3 e3
            rw [if_neg (show ¬ (p : Int) = (b.2.2.1 : Int) by omega)]
            congr 2
            omega
    · rw [leT (by omega) (by omega) (by omega), nb_0]
      have eact : act cy o t (some b) = none := if_neg (fun z => e (hnow.mp z))
      rw [eact] at go ⊢
      exact go 0 (fun p hp => by rw [if_pos rfl]; exact rd p hp)
end PB
