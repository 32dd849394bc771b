/-! A bus: the seconds of green behind, what is above the least green. -/
theorem pha_inv {g c : Nat → Int} : ∀ (d p : Nat) (X : Int) (q : Nat), sms (gcs g c) p ≤ X → pha g c d p (X - sms (gcs g c) p) = (q : Int) → sms (gcs g c) q ≤ X ∧ X < sms (gcs g c) q + g q
  | 0, p, X, q, _, h => by
    have h : (-1 : Int) = (q : Int) := h
    omega
  | d + 1, p, X, q, hX, h => by
    rw [pha] at h
    by_cases e : X - sms (gcs g c) p < g p
    · rw [if_pos e] at h
      have : p = q := by omega
      subst this
      omega
    · rw [if_neg e] at h
      by_cases e2 : X - sms (gcs g c) p < g p + c p
      · rw [if_pos e2] at h
        omega
      · rw [if_neg e2] at h
        have e3 : sms (gcs g c) (p + 1) = sms (gcs g c) p + (g p + c p) := rfl
        refine pha_inv d (p + 1) X q (by omega) ?_
        rw [e3, show X - (sms (gcs g c) p + (g p + c p)) = X - sms (gcs g c) p - (g p + c p) by omega]
        exact h
section BB
variable {fu k : Nat} {s : Nat → Nat} {c f : Nat → Int} {cy o t : Int} {S : Mem}
theorem s_bh12 (ho : okJ s c f cy) (h0 : 0 ≤ lef s c cy) (hJ : SJ S k s c f cy) (hP : PLN S k s c f cy) (h9 : S.1 3 k 9 = i32 o) (hoo : 0 ≤ o ∧ o < cy) (ht : 0 ≤ t ∧ t < 1000000) {p : Nat} (hp : p < mny s) : ∀ d q n : Nat, q + d = p → d < n → f_X3_secondsOfGreenBehind_12 fu k (i32 (p : Int)) (i32 t) S n (i32 (grn s c f cy p + sms (gcs (grn s c f cy) (clr s c)) q)) (i32 (q : Int)) = some (i32 (sms (gcs (grn s c f cy) (clr s c)) p + grn s c f cy p - 1 - (t - o) % cy)) := by
  intro d
  have hcy := ho.2.2.2
  have hmn := mny_le s
  have hx1 := Int.emod_nonneg (t - o) (show cy ≠ 0 by omega)
  have hx2 := Int.emod_lt_of_pos (t - o) (show 0 < cy by omega)
  have hg := grn_b (f := f) ho h0 hp
  induction d with
  | zero =>
    intro q n hq hn
    obtain ⟨n, rfl⟩ : ∃ n', n = n' + 1 := ⟨n - 1, by omega⟩
    have : q = p := by omega
    subst this
    rw [f_X3_secondsOfGreenBehind_12, leT (by omega) (by omega) (by omega), s_place hJ.2.1 h9 (by omega) (by omega) ht, b1s, q_1, q_sub, q_sub]
    congr 2
    omega
  | succ d ih =>
    intro q n hq hn
    obtain ⟨n, rfl⟩ : ∃ n', n = n' + 1 := ⟨n - 1, by omega⟩
    have hb := gsum_b (f := f) h0 q (by omega)
    rw [f_X3_secondsOfGreenBehind_12, leF (by omega) (by omega) (by omega), s_read (by omega) (by omega) (by omega), b1s, s_read (by omega) (by omega) (by omega), b1s, show ((q : Int)).toNat = q by omega, (hP.2.2 h0).1 q (by omega), hP.1 q (by omega), q_add, q_add, q_1, q_add]
    have e : grn s c f cy p + sms (gcs (grn s c f cy) (clr s c)) q + (grn s c f cy q + clr s c q) = grn s c f cy p + sms (gcs (grn s c f cy) (clr s c)) (q + 1) := by
      show _ = grn s c f cy p + (sms (gcs (grn s c f cy) (clr s c)) q + (grn s c f cy q + clr s c q)); omega
    rw [e]
    exact ih (q + 1) n (by omega) (by omega)
theorem s_behind (hfu : 8 ≤ fu) (ho : okJ s c f cy) (h0 : 0 ≤ lef s c cy) (hJ : SJ S k s c f cy) (hP : PLN S k s c f cy) (h9 : S.1 3 k 9 = i32 o) (hoo : 0 ≤ o ∧ o < cy) (ht : 0 ≤ t ∧ t < 1000000) {p : Nat} (hp : p < mny s) : f_X3_secondsOfGreenBehind fu k (i32 (p : Int)) (i32 t) S = some (i32 (sms (gcs (grn s c f cy) (clr s c)) p + grn s c f cy p - 1 - (t - o) % cy)) := by
  have hmn := mny_le s
  unfold f_X3_secondsOfGreenBehind
  rw [s_read (by omega) (by omega) (by omega), b1s, show ((p : Int)).toNat = p by omega, (hP.2.2 h0).1 p hp, q_0]
  have := s_bh12 (fu := fu) ho h0 hJ hP h9 hoo ht hp p 0 fu (by omega) (by omega)
  rw [show grn s c f cy p + sms (gcs (grn s c f cy) (clr s c)) 0 = grn s c f cy p from Int.add_zero _] at this
  exact this
theorem s_spare (ho : okJ s c f cy) (h0 : 0 ≤ lef s c cy) (hJ : SJ S k s c f cy) (hP : PLN S k s c f cy) {p : Nat} (hp : p < mny s) : f_X3_spareGreen fu k (i32 (p : Int)) S = some (i32 (grn s c f cy p - lst s p)) := by
  have hmn := mny_le s
  unfold f_X3_spareGreen
  rw [s_read (by omega) (by omega) (by omega), b1s, show ((p : Int)).toNat = p by omega, (hP.2.2 h0).1 p hp, s_leastGreen hJ ho (by omega), b1s, q_sub]
theorem m_above (ho : okJ s c f cy) (hM : SM S k s c f cy) (hP : PM S k s c f cy) {p : Nat} (hp : p < mny s) : f_X8_above fu (i32 (k : Int)) (i32 (p : Int)) S = some (i32 (grn s c f cy p - lst s p)) := by
  have hmn := mny_le s
  have hk := hM.1
  unfold f_X8_above
  rw [m_leastOf hM ho hp, q_4, q_mul, q_add, gdt (q_inb (by omega) (by omega) (by omega)), b1s, q_nat (by omega) (by omega), show (4 * (k : Int) + (p : Int)).toNat = 4 * k + p by omega, (hP.2 p hp).2, q_sub]
/-- the model's seconds behind: as long as the place stays in the green -/
theorem m_bh2 (hfu : 100 ≤ fu) (ho : okJ s c f cy) (h0 : 0 ≤ lef s c cy) (hM : SM S k s c f cy) (hP : PM S k s c f cy) (h24 : S.1 24 0 k = i32 o) (hclk : S.1 8 0 14 = i32 t) (hoo : 0 ≤ o ∧ o < cy) (ht : 0 ≤ t ∧ t < 900000) {p : Nat} (hp : p < mny s) (hx1 : sms (gcs (grn s c f cy) (clr s c)) p ≤ (t - o) % cy) (hx2 : (t - o) % cy < sms (gcs (grn s c f cy) (clr s c)) p + grn s c f cy p) : ∀ d i n : Nat, (i : Int) + d = sms (gcs (grn s c f cy) (clr s c)) p + grn s c f cy p - 1 - (t - o) % cy → d < n → f_X8_behind_2 fu (i32 (k : Int)) (i32 (p : Int)) S n (i32 (i : Int)) = some (i32 (sms (gcs (grn s c f cy) (clr s c)) p + grn s c f cy p - 1 - (t - o) % cy)) := by
  intro d
  have hcy := ho.2.2.2
  have hmn := mny_le s
  have hk := hM.1
  have hg := grn_b (f := f) ho h0 hp
  have hm0 := Int.emod_nonneg (t - o) (show cy ≠ 0 by omega)
  have hml := Int.emod_lt_of_pos (t - o) (show 0 < cy by omega)
  have hdm := Int.mul_ediv_add_emod (t - o) cy
  have hb1 := gsum_b (f := f) h0 (p + 1) (by omega)
  have e1 : sms (gcs (grn s c f cy) (clr s c)) (p + 1) = sms (gcs (grn s c f cy) (clr s c)) p + (grn s c f cy p + clr s c p) := rfl
  have hcn := clr_nn s c p
  -- the place and the cycle of a later second, in the same cycle
  have hplace : ∀ j : Int, 0 ≤ j → (t - o) % cy + j < cy → (t + j - o) % cy = (t - o) % cy + j ∧ (t + j - o) / cy = (t - o) / cy := by
    intro j hj hlt
    have e : t + j - o = cy * ((t - o) / cy) + ((t - o) % cy + j) := by omega
    constructor
    · exact emod_of e (by omega) hlt
    · rw [e, Int.mul_add_ediv_left _ _ (show cy ≠ 0 by omega), Int.ediv_eq_zero_of_lt (by omega) hlt, Int.add_zero]
  induction d with
  | zero =>
    intro i n hi hn
    obtain ⟨n, rfl⟩ : ∃ n', n = n' + 1 := ⟨n - 1, by omega⟩
    unfold f_X8_behind_2 f_X8_behind_67
    rw [hclk, q_add, q_1, q_add, m_phaseAt0 (by omega) ho h0 hM hP h24 hoo (by omega), b1s, m_cycleOf hk hM.2.2.1 h24 (by omega) (by omega) (by omega), b1s, m_cycleOf hk hM.2.2.1 h24 (by omega) (by omega) (by omega), b1s]
    have hres : some (i32 (i : Int)) = some (i32 (sms (gcs (grn s c f cy) (clr s c)) p + grn s c f cy p - 1 - (t - o) % cy)) := by
      have e9 : sms (gcs (grn s c f cy) (clr s c)) p + grn s c f cy p - 1 - (t - o) % cy = (i : Int) := by omega
      rw [e9]
    have hphr : -1 ≤ phB s c f cy o (t + (i : Int) + 1) none ∧ phB s c f cy o (t + (i : Int) + 1) none < 4 := by
      unfold phB
      rcases pha_ok (s := s) (g := gBu (grn s c f cy) (act cy o (t + (i : Int) + 1) none)) (cc := clr s c) ((t + (i : Int) + 1 - o) % cy) with z | ⟨q, hq, z⟩ <;> rw [z] <;> omega
    by_cases eph : phB s c f cy o (t + (i : Int) + 1) none = (p : Int)
    · rw [eqT eph, q_4, q_mul, q_add, gdt (q_inb (by omega) (by omega) (by omega)), q_nat (by omega) (by omega), show (4 * (k : Int) + (p : Int)).toNat = 4 * k + p by omega, (hP.2 p hp).2, q_sub]
      by_cases e2 : grn s c f cy p - 1 ≤ (i : Int)
      · rw [leT e2 (by omega) (by omega)]; exact hres
      · rw [leF (by omega) (by omega) (by omega)]
        have hd1 : -1 ≤ (t - o) / cy ∧ (t - o) / cy < 1000000 := by
          constructor
          · apply Int.le_ediv_of_mul_le (by omega); omega
          · apply Int.ediv_lt_of_lt_mul (by omega)
            have := Int.mul_le_mul_of_nonneg_left (show (1 : Int) ≤ cy by omega) (show (0 : Int) ≤ 1000000 by omega)
            omega
        have hd2 : -1 ≤ (t + (i : Int) + 1 - o) / cy ∧ (t + (i : Int) + 1 - o) / cy < 1000000 := by
          constructor
          · apply Int.le_ediv_of_mul_le (by omega); omega
          · apply Int.ediv_lt_of_lt_mul (by omega)
            have := Int.mul_le_mul_of_nonneg_left (show (1 : Int) ≤ cy by omega) (show (0 : Int) ≤ 1000000 by omega)
            omega
        by_cases e3 : (t - o) % cy + ((i : Int) + 1) < cy
        · obtain ⟨h1, h2⟩ := hplace ((i : Int) + 1) (by omega) e3
          rw [show t + ((i : Int) + 1) - o = t + (i : Int) + 1 - o by omega] at h1
          unfold phB at eph
          have := pha_inv (mny s) 0 ((t + (i : Int) + 1 - o) % cy) p (by show (0 : Int) ≤ _; omega) (by
            rw [show sms (gcs (grn s c f cy) (clr s c)) 0 = 0 from rfl, Int.sub_zero]
            exact eph)
          omega
        · have : (t + (i : Int) + 1 - o) / cy ≠ (t - o) / cy := by
            intro z
            have h3 := Int.mul_ediv_add_emod (t + (i : Int) + 1 - o) cy
            have h4 := Int.emod_lt_of_pos (t + (i : Int) + 1 - o) (show 0 < cy by omega)
            rw [z] at h3
            omega
          rw [eqF this (by omega) (by omega) (by omega) (by omega)]; exact hres
    · rw [eqF eph (by omega) (by omega) (by omega) (by omega)]; exact hres
  | succ d ih =>
    intro i n hi hn
    obtain ⟨n, rfl⟩ : ∃ n', n = n' + 1 := ⟨n - 1, by omega⟩
    have ih' := ih (i + 1) n (by omega) (by omega)
    obtain ⟨h1, h2⟩ := hplace ((i : Int) + 1) (by omega) (by omega)
    rw [show t + ((i : Int) + 1) - o = t + (i : Int) + 1 - o by omega] at h1 h2
    have eph : phB s c f cy o (t + (i : Int) + 1) none = (p : Int) := by
      unfold phB
      rw [h1]
      exact pha_in h0 hp (by omega) (by omega)
    rw [f_X8_behind_2]
    unfold f_X8_behind_67
    rw [hclk, q_add, q_1, q_add, m_phaseAt0 (by omega) ho h0 hM hP h24 hoo (by omega), b1s, m_cycleOf hk hM.2.2.1 h24 (by omega) (by omega) (by omega), b1s, m_cycleOf hk hM.2.2.1 h24 (by omega) (by omega) (by omega), b1s, eqT eph, q_4, q_mul, q_add, gdt (q_inb (by omega) (by omega) (by omega)), q_nat (by omega) (by omega), show (4 * (k : Int) + (p : Int)).toNat = 4 * k + p by omega, (hP.2 p hp).2, q_sub, leF (by omega) (by omega) (by omega), eqT h2, q_add]
    exact ih'
end BB
