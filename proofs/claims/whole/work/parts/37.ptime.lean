/-! Seconds in the cycle, phases and lights, on both sides. -/
section TC
variable {fu k : Nat} {s : Nat → Nat} {c f : Nat → Int} {cy : Int} {S : Mem}
theorem s_place {t o : Int} (h8 : S.1 3 k 8 = i32 cy) (h9 : S.1 3 k 9 = i32 o) (hc : 30 ≤ cy ∧ cy ≤ 90) (ho : 0 ≤ o ∧ o < 100) (ht : 0 ≤ t ∧ t < 1000000) : f_X3_placeInCycle fu k (i32 t) S = some (i32 ((t - o) % cy)) := by
  unfold f_X3_placeInCycle
  rw [h8, h9, q_sub, s_modulo (by omega) (by omega) (by omega) (by omega), b1s]
theorem s_isLitFrom {t o : Int} {m : Nat} (h8 : S.1 3 k 8 = i32 cy) (ho : okJ s c f cy) (hl : ∀ u : Nat, (u : Int) < cy → S.1 16 k u = i32 (lit s c f cy (u : Int) : Int)) (h16 : ∀ x, lit s c f cy x < 16) (hm : m < 4) (hto : -100000 ≤ o ∧ o < 100000) (ht : 0 ≤ t ∧ t < 1000000) : f_X3_isLitFrom fu k (i32 o) (i32 (m : Int)) (i32 t) S = some (bo ((lit s c f cy ((t - o) % cy)).testBit m)) := by
  have hc := ho.2.2.2
  have h1 := Int.emod_nonneg (t - o) (show cy ≠ 0 by omega)
  have h2 := Int.emod_lt_of_pos (t - o) (show 0 < cy by omega)
  unfold f_X3_isLitFrom
  rw [h8, q_sub, s_modulo (by omega) (by omega) (by omega) (by omega), b1s, s_read h1 (by omega) (by omega), b1s, hl _ (by omega), show (((t - o) % cy).toNat : Int) = (t - o) % cy by omega, s_hasBit (h16 _) hm, b1s, nb_bo]
/-- a loop over the phases: what green each has, and the place -/
theorem s_ph15 {g : Nat → Int} {fl x1 : Int32} (h7 : S.1 3 k 7 = i32 (mny s : Int)) (h15 : ∀ p, p < mny s → S.1 15 k p = i32 (clr s c p)) (hcb : ∀ p, clr s c p ≤ 9) (hg : ∀ p, p < mny s → 0 ≤ g p ∧ g p ≤ 200) (hgr : ∀ p, p < mny s → (if fl = 0 then f_X7_read fu 14 4 k (i32 (p : Int)) S else f_X3_changedGreen fu k (i32 (p : Int)) S) = some (i32 (g p))) : ∀ (d p n : Nat) (x : Int), p + d = mny s → d < n → 0 ≤ x → x < 1000 → f_X3_phaseIn_15 fu k x1 S n fl (i32 x) (i32 (p : Int)) = some (i32 (pha g (clr s c) d p x)) := by
  intro d
  have hm := mny_le s
  induction d with
  | zero =>
    intro p n x hp hn hx0 hx
    obtain ⟨n, rfl⟩ : ∃ n', n = n' + 1 := ⟨n - 1, by omega⟩
    rw [f_X3_phaseIn_15, h7, leT (by omega) (by omega) (by omega), q_m1]
    rfl
  | succ d ih =>
    intro p n x hp hn hx0 hx
    obtain ⟨n, rfl⟩ : ∃ n', n = n' + 1 := ⟨n - 1, by omega⟩
    have hgp := hg p (by omega)
    have hcp := hcb p
    have hcn := clr_nn s c p
    have hr := hgr p (by omega)
    have e46 : f_X3_phaseIn_46 fu (f_X3_phaseIn_15 fu k x1 S n) k x1 S fl (i32 x) (i32 (p : Int)) (i32 (g p)) = some (i32 (pha g (clr s c) (d + 1) p x)) := by
      unfold f_X3_phaseIn_46
      rw [pha]
      by_cases e1 : x < g p
      · rw [leF e1 (by omega) (by omega), if_pos e1]
      · rw [leT (by omega) (by omega) (by omega), if_neg e1, s_read (by omega) (by omega) (by omega), b1s, show ((p : Int)).toNat = p by omega, h15 p (by omega), q_sub]
        by_cases e2 : x < g p + clr s c p
        · rw [leF (by omega) (by omega) (by omega), if_pos e2, q_m1]
        · rw [leT (by omega) (by omega) (by omega), if_neg e2, b1s, q_sub, q_1, q_add]
          have := ih (p + 1) n (x - g p - clr s c p) (by omega) (by omega) (by omega) (by omega)
          rw [show x - (g p + clr s c p) = x - g p - clr s c p by omega]
          exact this
    rw [f_X3_phaseIn_15, h7, leF (by omega) (by omega) (by omega)]
    by_cases e : fl = 0
    · rw [if_pos e] at hr
      rw [if_pos e, hr, b1s]
      exact e46
    · rw [if_neg e] at hr
      rw [if_neg e, hr, b1s]
      exact e46
end TC
section TM
variable {fu k : Nat} {s : Nat → Nat} {c f : Nat → Int} {cy : Int} {S : Mem}
theorem m_secondOf {t o : Int} (hk : k < 5) (h2 : S.1 8 0 2 = i32 cy) (h24 : S.1 24 0 k = i32 o) (hc : 30 ≤ cy ∧ cy ≤ 90) (ho : 0 ≤ o ∧ o < 100) (ht : 0 ≤ t ∧ t < 1000000) : f_X8_secondOf fu (i32 (k : Int)) (i32 t) S = some (i32 ((t - o) % cy)) := by
  have hq := Int.tmod_add_mul_tdiv (t - o) cy
  have hl := Int.tmod_lt_of_pos (t - o) (show 0 < cy by omega)
  have hg := Int.lt_tmod_of_pos (t - o) (show 0 < cy by omega)
  unfold f_X8_secondOf
  rw [gdt (q_inb (by omega) (by omega) (by omega)), h2, gdt (m_ne (by omega) (by omega)), gdt (m_ne (by omega) (by omega)), q_nat (a := (k : Int)) (by omega) (by omega), show ((k : Int)).toNat = k by omega, h24, q_sub, s_rem (by omega) (by omega) (by omega) (by omega), q_add, s_rem (by omega) (by omega) (by omega) (by omega), Int.tmod_eq_emod_of_nonneg (by omega)]
  congr 2
  by_cases e : 0 ≤ (t - o).tmod cy
  · rw [emod_of (a := t - o) (q := (t - o).tdiv cy) (by omega) e hl, Int.add_emod_right]
    exact Int.emod_eq_of_lt e hl
  · rw [emod_of (a := t - o) (q := (t - o).tdiv cy - 1) (r := (t - o).tmod cy + cy) (by rw [Int.mul_sub]; omega) (by omega) (by omega)]
    exact Int.emod_eq_of_lt (by omega) (by omega)
theorem m_cycleOf {t o : Int} (hk : k < 5) (h2 : S.1 8 0 2 = i32 cy) (h24 : S.1 24 0 k = i32 o) (hc : 30 ≤ cy ∧ cy ≤ 90) (ho : 0 ≤ o ∧ o < 100) (ht : 0 ≤ t ∧ t < 1000000) : f_X8_cycleOf fu (i32 (k : Int)) (i32 t) S = some (i32 ((t - o) / cy)) := by
  have h1 := Int.emod_nonneg (t - o) (show cy ≠ 0 by omega)
  have h3 := Int.emod_lt_of_pos (t - o) (show 0 < cy by omega)
  have h4 := Int.mul_ediv_add_emod (t - o) cy
  unfold f_X8_cycleOf
  rw [gdt (q_inb (by omega) (by omega) (by omega)), m_secondOf hk h2 h24 hc ho ht, b1s, h2, gdt (m_ne (by omega) (by omega)), q_nat (a := (k : Int)) (by omega) (by omega), show ((k : Int)).toNat = k by omega, h24, q_sub, q_sub, q_div (by omega) (by omega) (by omega) (by omega)]
  congr 2
  rw [show t - o - (t - o) % cy = cy * ((t - o) / cy) by omega]
  exact Int.mul_tdiv_cancel_left _ (by omega)
theorem m_ph46 {g : Nat → Int} {fl x2 x3 : Int32} (hk : k < 5) (h22 : S.1 22 0 k = i32 (mny s : Int)) (h28 : ∀ p, p < mny s → S.1 28 0 (4 * k + p) = i32 (clr s c p)) (hcb : ∀ p, clr s c p ≤ 9) (hg : ∀ p, p < mny s → 0 ≤ g p ∧ g p ≤ 200)
    (hgr : ∀ p, p < mny s → ∃ v w : Int, S.1 27 0 (4 * k + p) = i32 v ∧ -1000 ≤ v ∧ v ≤ 1000 ∧ ((fl = 0 ∧ v = g p) ∨ (fl = 1 ∧ ∃ G a1 a2 : Int, S.1 36 0 k = i32 a1 ∧ S.1 37 0 k = i32 a2 ∧ -1 ≤ a1 ∧ a1 < 4 ∧ -1 ≤ a2 ∧ a2 < 4 ∧ S.1 38 0 k = i32 G ∧ 0 ≤ G ∧ G ≤ 5 ∧ g p = v + (if (p : Int) = a1 then G else 0) - (if (p : Int) = a2 then G else 0)))) : ∀ (d p n : Nat) (x : Int), p + d = mny s → d < n → -1000 < x → x < 1000 → f_X8_phaseAt_46 fu (i32 (k : Int)) x2 x3 S n (i32 x) fl (i32 (p : Int)) = some (i32 (if x < 0 then -1 else pha g (clr s c) d p x)) := by
  intro d
  have hm := mny_le s
  induction d with
  | zero =>
    intro p n x hp hn hx0 hx
    obtain ⟨n, rfl⟩ : ∃ n', n = n' + 1 := ⟨n - 1, by omega⟩
    rw [f_X8_phaseAt_46, gdt (q_inb (by omega) (by omega) (by omega)), q_nat (a := (k : Int)) (by omega) (by omega), show ((k : Int)).toNat = k by omega, h22, leT (by omega) (by omega) (by omega), q_m1]
    have : (if x < 0 then -1 else pha g (clr s c) 0 p x) = -1 := by
      split <;> rfl
    rw [this]
  | succ d ih =>
    intro p n x hp hn hx0 hx
    obtain ⟨n, rfl⟩ : ∃ n', n = n' + 1 := ⟨n - 1, by omega⟩
    have hgp := hg p (by omega)
    have hcp := hcb p
    have hcn := clr_nn s c p
    have e129 : ∀ t0 t1 : Int, -1000 ≤ t0 → t0 ≤ 1000 → -2000 ≤ t1 → t1 ≤ 2000 → t1 - t0 = g p → f_X8_phaseAt_129 fu (f_X8_phaseAt_46 fu (i32 (k : Int)) x2 x3 S n) (i32 (k : Int)) x2 x3 S (i32 x) fl (i32 (p : Int)) (i32 t0) (i32 t1) = some (i32 (if x < 0 then -1 else pha g (clr s c) (d + 1) p x)) := by
      intro t0 t1 h1 h2 h3 h4 h5
      unfold f_X8_phaseAt_129 f_X8_phaseAt_150
      rw [q_sub, h5, pha]
      by_cases e0 : x < 0
      · rw [leF (by omega) (by omega) (by omega), if_pos e0, q_0, leF e0 (by omega) (by omega), q_m1]
      · rw [if_neg e0]
        by_cases e1 : x < g p
        · rw [leF e1 (by omega) (by omega), if_pos e1, q_0, leT (by omega) (by omega) (by omega)]
        · rw [leT (by omega) (by omega) (by omega), if_neg e1, q_4, q_mul, q_add, gdt (q_inb (by omega) (by omega) (by omega)), q_nat (by omega) (by omega), show (4 * (k : Int) + (p : Int)).toNat = 4 * k + p by omega, h28 p (by omega), q_add, q_sub, q_1, q_add]
          have := ih (p + 1) n (x - (g p + clr s c p)) (by omega) (by omega) (by omega) (by omega)
          refine this.trans ?_
          by_cases e2 : x < g p + clr s c p
          · rw [if_pos (by omega), if_pos e2]
          · rw [if_neg (by omega), if_neg e2]
    obtain ⟨v, w, h27, hv1, hv2, hc⟩ := hgr p (by omega)
    rw [f_X8_phaseAt_46, gdt (q_inb (by omega) (by omega) (by omega)), q_nat (a := (k : Int)) (by omega) (by omega), show ((k : Int)).toNat = k by omega, h22, leF (by omega) (by omega) (by omega), q_4, q_mul, q_add, gdt (q_inb (by omega) (by omega) (by omega)), q_nat (by omega) (by omega), show (4 * (k : Int) + (p : Int)).toNat = 4 * k + p by omega, h27]
    rcases hc with ⟨rfl, hvg⟩ | ⟨rfl, G, a1, a2, h36, h37, ha1, ha1', ha2, ha2', h38, hG0, hG5, hgg⟩
    · rw [if_pos rfl, f_X8_phaseAt_97, f_X8_phaseAt_98, if_pos rfl, f_X8_phaseAt_128, q_0, q_add]
      exact e129 0 (v + 0) (by omega) (by omega) (by omega) (by omega) (by omega)
    · have e98 : ∀ t0 : Int, 0 ≤ t0 → t0 ≤ 5 → v + t0 - (if (p : Int) = a2 then G else 0) = g p → f_X8_phaseAt_98 fu (f_X8_phaseAt_46 fu (i32 (k : Int)) x2 x3 S n) (i32 (k : Int)) x2 x3 S (i32 x) 1 (i32 (p : Int)) (i32 t0) (i32 v) = some (i32 (if x < 0 then -1 else pha g (clr s c) (d + 1) p x)) := by
        intro t0 ht0 ht5 ht
        unfold f_X8_phaseAt_98
        rw [if_neg (by decide +kernel), gdt (q_inb (by omega) (by omega) (by omega)), q_nat (a := (k : Int)) (by omega) (by omega), show ((k : Int)).toNat = k by omega, h37, q_add]
        by_cases e : (p : Int) = a2
        · rw [eqT e, gdt (q_inb (by omega) (by omega) (by omega)), h38]
          rw [if_pos e] at ht
          exact e129 G (v + t0) (by omega) (by omega) (by omega) (by omega) ht
        · rw [eqF e (by omega) (by omega) (by omega) (by omega), f_X8_phaseAt_128, q_0]
          rw [if_neg e] at ht
          exact e129 0 (v + t0) (by omega) (by omega) (by omega) (by omega) ht
      rw [if_neg (by decide +kernel), gdt (q_inb (by omega) (by omega) (by omega)), h36]
      by_cases e : (p : Int) = a1
      · rw [eqT e, gdt (q_inb (by omega) (by omega) (by omega)), h38]
        rw [if_pos e] at hgg
        exact e98 G hG0 hG5 (by omega)
      · rw [eqF e (by omega) (by omega) (by omega) (by omega), f_X8_phaseAt_97, q_0]
        rw [if_neg e] at hgg
        exact e98 0 (by omega) (by omega) (by omega)
end TM
