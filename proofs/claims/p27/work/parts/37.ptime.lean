/-! Seconds in the cycle, phases and lights, on both sides. -/
section TC
variable {fu k : Nat} {s : Nat → Nat} {c f : Nat → Int} {cy : Int} {S : Mem}
theorem s_place {t o : Int} (h8 : S.1 3 k 8 = i32 cy) (h9 : S.1 3 k 9 = i32 o) (hc : 30 ≤ cy ∧ cy ≤ 90) (ho : 0 ≤ o ∧ o < 100) (ht : 0 ≤ t ∧ t < 1000000) : f_X3_placeInCycle fu k (i32 t) S = some (i32 ((t - o) % cy)) := by
  unfold f_X3_placeInCycle
  rw [h8, h9, q_sub, s_modulo (by omega) (by omega) (by omega) (by omega), b1s]
theorem s_isLitFrom {t o : Int} {m : Nat} (h8 : S.1 3 k 8 = i32 cy) (ho : okJ s c f cy) (hl : ∀ u : Nat, (u : Int) < cy → S.1 16 k u = i32 (lit s c f cy (u : Int) : Int)) (h16 : ∀ x, lit s c f cy x < 16) (hm : m < 4) (hto : -100000 ≤ o ∧ o < 100000) (ht : 0 ≤ t ∧ t < 1000000) : f_X3_isLitFrom fu k (i32 o) (i32 (m : Int)) (i32 t) S = some (bo ((lit s c f cy ((t - o) % cy)).testBit m)) := by
  have hc := ho.2.2.2
  have h1 := Int.emod_nonneg (t - o) (show cy ≠ 0 by omega)
  have h2 := Int.emod_lt_of_pos (t - o) (show 0 < cy by omega)
  unfold f_X3_isLitFrom
  rw [h8, q_sub, s_modulo (by omega) (by omega) (by omega) (by omega), b1s, s_read h1 (by omega) (by omega), b1s, hl _ (by omega), show (((t - o) % cy).toNat : Int) = (t - o) % cy by omega, s_hasBit (h16 _) hm, b1s, nb_bo]
/-- a loop over the phases: what green each has, and the place -/
theorem s_ph15 {g : Nat → Int} {fl x1 : Int32} (h7 : S.1 3 k 7 = i32 (mny s : Int)) (h15 : ∀ p, p < mny s → S.1 15 k p = i32 (clr s c p)) (hcb : ∀ p, clr s c p ≤ 9) (hg : ∀ p, p < mny s → 0 ≤ g p ∧ g p ≤ 200) (hgr : ∀ p, p < mny s → (if fl = 0 then f_X7_read fu 14 4 k (i32 (p : Int)) S else f_X3_changedGreen fu k (i32 (p : Int)) S) = some (i32 (g p))) : ∀ (d p n : Nat) (x : Int), p + d = mny s → d < n → 0 ≤ x → x < 1000 → f_X3_phaseIn_15 fu k x1 S n fl (i32 x) (i32 (p : Int)) = some (i32 (pha g (clr s c) d p x)) := by
  intro d
  have hm := mny_le s
  induction d with
  | zero =>
    intro p n x hp hn hx0 hx
    obtain ⟨n, rfl⟩ : ∃ n', n = n' + 1 := ⟨n - 1, by omega⟩
    rw [f_X3_phaseIn_15, h7, leT (by omega) (by omega) (by omega), q_m1]
    rfl
  | succ d ih =>
    intro p n x hp hn hx0 hx
    obtain ⟨n, rfl⟩ : ∃ n', n = n' + 1 := ⟨n - 1, by omega⟩
    have hgp := hg p (by omega)
    have hcp := hcb p
    have hcn := clr_nn s c p
    have hr := hgr p (by omega)
    have e46 : f_X3_phaseIn_46 fu (f_X3_phaseIn_15 fu k x1 S n) k x1 S fl (i32 x) (i32 (p : Int)) (i32 (g p)) = some (i32 (pha g (clr s c) (d + 1) p x)) := by
      unfold f_X3_phaseIn_46
      rw [pha]
      by_cases e1 : x < g p
      · rw [leF e1 (by omega) (by omega), if_pos e1]
      · rw [leT (by omega) (by omega) (by omega), if_neg e1, s_read (by omega) (by omega) (by omega), b1s, show ((p : Int)).toNat = p by omega, h15 p (by omega), q_sub]
        by_cases e2 : x < g p + clr s c p
        · rw [leF (by omega) (by omega) (by omega), if_pos e2, q_m1]
        · rw [leT (by omega) (by omega) (by omega), if_neg e2, b1s, q_sub, q_1, q_add]
          have := ih (p + 1) n (x - g p - clr s c p) (by omega) (by omega) (by omega) (by omega)
          rw [show x - (g p + clr s c p) = x - g p - clr s c p by omega]
          exact this
    rw [f_X3_phaseIn_15, h7, leF (by omega) (by omega) (by omega)]
    by_cases e : fl = 0
    · rw [if_pos e] at hr
      rw [if_pos e, hr, b1s]
      exact e46
    · rw [if_neg e] at hr
      rw [if_neg e, hr, b1s]
      exact e46
end TC
section TM
variable {fu k : Nat} {s : Nat → Nat} {c f : Nat → Int} {cy : Int} {S : Mem}
end TM
