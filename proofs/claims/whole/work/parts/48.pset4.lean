/-! setLink, setPhases. -/
theorem sim_setLink (fu : Nat) : Sim_setLink fu RR := by
  intro S SR x y w h
  have h' := h
  obtain ⟨C, V, h1, h2, h3, h4, h5, h6⟩ := h'
  have hx := q_rng x
  have hy := q_rng y
  have hw := q_rng w
  rw [← q_self x, ← q_self y, ← q_self w]
  generalize x.toInt = a at *
  generalize y.toInt = b at *
  generalize w.toInt = v at *
  have hj : 2 ≤ cJ C ∧ cJ C ≤ 5 := ⟨h1.1, h1.2.1⟩
  have ein : f_X8_in fu (i32 b) 1 60 SR = some (bo (decide (1 ≤ b ∧ b ≤ 60))) := s_in (b := 1) (c := 60) (by omega) (by omega) (by omega) (by omega) (by omega) (by omega)
  have eout : f_X7_isOutside fu (i32 b) 1 60 S = some (bo (!decide (1 ≤ b ∧ b ≤ 60))) := s_isOutside (b := 1) (c := 60) (by omega) (by omega) (by omega) (by omega) (by omega) (by omega)
  have ein2 : f_X8_in fu (i32 v) 1 40 SR = some (bo (decide (1 ≤ v ∧ v ≤ 40))) := s_in (b := 1) (c := 40) (by omega) (by omega) (by omega) (by omega) (by omega) (by omega)
  have eout2 : f_X7_isOutside fu (i32 v) 1 40 S = some (bo (!decide (1 ≤ v ∧ v ≤ 40))) := s_isOutside (b := 1) (c := 40) (by omega) (by omega) (by omega) (by omega) (by omega) (by omega)
  have e25 : f_X8_setLink fu (i32 a) (i32 b) (i32 v) SR = f_X8_setLink_25 fu (i32 a) (i32 b) (i32 v) (bo (decide ((1 ≤ b ∧ b ≤ 60) ∧ 1 ≤ v ∧ v ≤ 40))) SR := by
    unfold f_X8_setLink f_X8_setLink_24
    rw [ein, b1s]
    by_cases e1 : 1 ≤ b ∧ b ≤ 60
    · rw [boT (decide_eq_true e1), ein2, b1s]
      by_cases e2 : 1 ≤ v ∧ v ≤ 40
      · rw [boT (decide_eq_true e2), decide_eq_true (by exact ⟨e1, e2⟩)]; rfl
      · rw [boF (decide_eq_false e2), decide_eq_false (fun z => e2 z.2)]; rfl
    · rw [boF (decide_eq_false e1), decide_eq_false (fun z => e1 z.1)]; rfl
  rw [e25]
  unfold fx_X7_setLink fx_X7_setLink_30 f_X8_setLink_25 f_X8_setLink_61 f_X8_setLink_81
  rw [s_linkFrom hj h2.1 hx, m_isL hj h3.1 hx, b1s]
  by_cases e : 0 ≤ a ∧ a + 1 < cJ C
  · obtain ⟨k, rfl⟩ : ∃ k : Nat, a = (k : Int) := ⟨a.toNat, by omega⟩
    have hk : k + 1 < cJ C := by omega
    rw [if_pos e, bxr, boT (decide_eq_true e), eout, b1s]
    by_cases e1 : 1 ≤ b ∧ b ≤ 60
    · rw [decide_eq_true e1, Bool.not_true, boF rfl, eout2, b1s]
      by_cases e2 : 1 ≤ v ∧ v ≤ 40
      · rw [decide_eq_true e2, Bool.not_true, boF rfl, decide_eq_true (show (1 ≤ b ∧ b ≤ 60) ∧ 1 ≤ v ∧ v ≤ 40 from ⟨e1, e2⟩), boT rfl, s_settingUp h5, h6.2.2.2.2.1]
        cases hb : vB V with
        | true =>
          rw [if_neg (by simp), bxl, boT rfl, m_holdsN (by decide +kernel), b2s, if_pos rfl]
          exact ⟨_, _, _, 3, rfl, rfl, rfl, w_eq, h.mf moF.th⟩
        | false =>
          rw [if_pos rfl, bxr, boF rfl, m_holds0, b2s, if_neg (by decide +kernel), gdt (q_inb (by omega) (by omega) (by omega)), gdt (q_inb (by omega) (by omega) (by omega)), q_nat (by omega) (by omega), show ((k : Int)).toNat = k by omega]
          refine ⟨_, _, _, 0, rfl, rfl, rfl, (w_ne (by omega)).trans ((w_ne (by omega)).trans w_eq), ?_⟩
          have hC' : okC (cJ C, cCy C, cS C, cC C, cF C, cO C, va_up (cLs C) k b, va_up (cLr C) k v) := ⟨h1.1, h1.2.1, h1.2.2.1, h1.2.2.2.1, h1.2.2.2.2.1, fun k' hk' => by
            have := h1.2.2.2.2.2 k' hk'
            show 1 ≤ va_up (cLs C) k b k' ∧ va_up (cLs C) k b k' ≤ 60 ∧ 1 ≤ va_up (cLr C) k v k' ∧ va_up (cLr C) k v k' ≤ 40
            unfold va_up
            split
            · omega
            · exact this⟩
          have h6' := h6.mf (moF.th (v := 0))
          have h3' := h3.mf (moF.th (v := 0))
          refine ⟨(cJ C, cCy C, cS C, cC C, cF C, cO C, va_up (cLs C) k b, va_up (cLr C) k v), V, hC', ?_, ?_, okV_idle h4 hb rfl hC', ?_, ?_⟩
          · refine ⟨(w_ne (by omega)).trans ((w_ne (by omega)).trans h2.1), (w_ne (by omega)).trans ((w_ne (by omega)).trans h2.2.1), fun k' hk' => ?_, fun k' hk' => ?_⟩
            · obtain ⟨g1, g2, g3⟩ := h2.2.2.1 k' hk'
              refine ⟨⟨(w_ne (by omega)).trans ((w_ne (by omega)).trans g1.1), (w_ne (by omega)).trans ((w_ne (by omega)).trans g1.2.1), fun p hp => (w_ne (by omega)).trans ((w_ne (by omega)).trans (g1.2.2.1 p hp)), fun q hq => (w_ne (by omega)).trans ((w_ne (by omega)).trans (g1.2.2.2.1 q hq)), fun m hm => (w_ne (by omega)).trans ((w_ne (by omega)).trans (g1.2.2.2.2 m hm))⟩, ⟨fun p hp => (w_ne (by omega)).trans ((w_ne (by omega)).trans (g2.1 p hp)), (w_ne (by omega)).trans ((w_ne (by omega)).trans g2.2.1), fun h0 => ⟨fun p hp => (w_ne (by omega)).trans ((w_ne (by omega)).trans ((g2.2.2 h0).1 p hp)), fun u hu => (w_ne (by omega)).trans ((w_ne (by omega)).trans ((g2.2.2 h0).2 u hu))⟩⟩, (w_ne (by omega)).trans ((w_ne (by omega)).trans g3)⟩
            · obtain ⟨g1, g2⟩ := h2.2.2.2 k' hk'
              show (wI (wI S 4 k 1 (i32 b)) 4 k 2 (i32 v)).1 4 k' 1 = i32 (va_up (cLs C) k b k') ∧ (wI (wI S 4 k 1 (i32 b)) 4 k 2 (i32 v)).1 4 k' 2 = i32 (va_up (cLr C) k v k')
              rw [w_ok, w_ok, w_ok, w_ok]
              unfold va_up
              by_cases ek : k' = k
              · rw [if_neg (by omega), if_pos ⟨rfl, ek, rfl⟩, if_pos ek, if_pos ⟨rfl, ek, rfl⟩, if_pos ek]; exact ⟨rfl, rfl⟩
              · rw [if_neg (by omega), if_neg (by omega), if_neg ek, if_neg (by omega), if_neg (by omega), if_neg ek]; exact ⟨g1, g2⟩
          · refine ⟨(w_ne (by omega)).trans ((w_ne (by omega)).trans h3'.1), fun k' hk' => ?_, fun k' hk' => ?_⟩
            · obtain ⟨⟨j0, j1, j2, j3, j4, j5⟩, g3⟩ := h3'.2.1 k' hk'
              exact ⟨⟨j0, (w_ne (by omega)).trans ((w_ne (by omega)).trans j1), (w_ne (by omega)).trans ((w_ne (by omega)).trans j2), fun p hp => (w_ne (by omega)).trans ((w_ne (by omega)).trans (j3 p hp)), fun q hq => (w_ne (by omega)).trans ((w_ne (by omega)).trans (j4 q hq)), fun m hm => (w_ne (by omega)).trans ((w_ne (by omega)).trans (j5 m hm))⟩, (w_ne (by omega)).trans ((w_ne (by omega)).trans g3)⟩
            · obtain ⟨g1, g2⟩ := h3'.2.2 k' hk'
              show (wI (wI (wI SR 8 0 0 0) 25 0 k (i32 b)) 26 0 k (i32 v)).1 25 0 k' = i32 (va_up (cLs C) k b k') ∧ (wI (wI (wI SR 8 0 0 0) 25 0 k (i32 b)) 26 0 k (i32 v)).1 26 0 k' = i32 (va_up (cLr C) k v k')
              generalize wI SR 8 0 0 0 = T at *
              rw [w_ok, w_ok, w_ok, w_ok]
              unfold va_up
              by_cases ek : k' = k
              · rw [if_neg (by omega), if_pos ⟨rfl, rfl, ek⟩, if_pos ek, if_pos ⟨rfl, rfl, ek⟩, if_pos ek]; exact ⟨rfl, rfl⟩
              · rw [if_neg (by omega), if_neg (by omega), if_neg ek, if_neg (by omega), if_neg (by omega), if_neg ek]; exact ⟨g1, g2⟩
          · refine kcV_idle (C := C) ?_ h4 hb rfl
            obtain ⟨g1, g2, g3, g4, g5, g6, g7⟩ := h5
            refine ⟨(w_ne (by omega)).trans ((w_ne (by omega)).trans g1), (w_ne (by omega)).trans ((w_ne (by omega)).trans g2), (w_ne (by omega)).trans ((w_ne (by omega)).trans g3), (w_ne (by omega)).trans ((w_ne (by omega)).trans g4), (w_ne (by omega)).trans ((w_ne (by omega)).trans g5), fun k' hk' => ⟨(w_ne (by omega)).trans ((w_ne (by omega)).trans (g6 k' hk').1), (w_ne (by omega)).trans ((w_ne (by omega)).trans (g6 k' hk').2.1), ?_⟩, fun k' hk' => ⟨(w_ne (by omega)).trans ((w_ne (by omega)).trans (g7 k' hk').1), fun r hr => (w_ne (by omega)).trans ((w_ne (by omega)).trans ((g7 k' hk').2 r hr))⟩⟩
            have := (g6 k' hk').2.2
            rw [((h4.2.2.2.2.2.2.2.2.2.2.2.1 hb).2 k' hk').2.2.2] at this ⊢
            exact (w_ne (by omega)).trans ((w_ne (by omega)).trans this)
          · refine moV_idle (C := C) ?_ rfl
            obtain ⟨g1, g2, g3, g4, g5, g6, g7⟩ := h6'
            refine ⟨(w_ne (by omega)).trans ((w_ne (by omega)).trans g1), (w_ne (by omega)).trans ((w_ne (by omega)).trans g2), (w_ne (by omega)).trans ((w_ne (by omega)).trans g3), (w_ne (by omega)).trans ((w_ne (by omega)).trans g4), (w_ne (by omega)).trans ((w_ne (by omega)).trans g5), fun k' hk' => ⟨(w_ne (by omega)).trans ((w_ne (by omega)).trans (g6 k' hk').1), (w_ne (by omega)).trans ((w_ne (by omega)).trans (g6 k' hk').2.1), ?_⟩, fun k' hk' => ⟨(w_ne (by omega)).trans ((w_ne (by omega)).trans (g7 k' hk').1), fun i hi => (w_ne (by omega)).trans ((w_ne (by omega)).trans ((g7 k' hk').2 i hi))⟩⟩
            have := (g6 k' hk').2.2
            rw [((h4.2.2.2.2.2.2.2.2.2.2.2.1 hb).2 k' hk').2.2.2] at this ⊢
            exact (w_ne (by omega)).trans ((w_ne (by omega)).trans this)
      · rw [decide_eq_false e2, Bool.not_false, boT rfl, decide_eq_false (show ¬ ((1 ≤ b ∧ b ≤ 60) ∧ 1 ≤ v ∧ v ≤ 40) from fun z => e2 z.2), boF rfl, m_holdsN (by decide +kernel), b2s, if_pos rfl]
        exact ⟨_, _, _, 2, rfl, rfl, rfl, w_eq, h.mf moF.th⟩
    · rw [decide_eq_false e1, Bool.not_false, boT rfl, decide_eq_false (show ¬ ((1 ≤ b ∧ b ≤ 60) ∧ 1 ≤ v ∧ v ≤ 40) from fun z => e1 z.1), boF rfl, m_holdsN (by decide +kernel), b2s, if_pos rfl]
      exact ⟨_, _, _, 2, rfl, rfl, rfl, w_eq, h.mf moF.th⟩
  · rw [if_neg e, bxl, boF (decide_eq_false e), m_holdsN (by decide +kernel), b2s, if_pos rfl]
    exact ⟨_, _, _, 1, rfl, rfl, rfl, w_eq, h.mf moF.th⟩
theorem anyF_iff (f : Nat → Bool) : ∀ d i, anyF f d i = true ↔ ∃ j, i ≤ j ∧ j < i + d ∧ f j = true
  | 0, i => by
    constructor
    · intro h; cases h
    · rintro ⟨j, h1, h2, -⟩; omega
  | d + 1, i => by
    rw [anyF, Bool.or_eq_true, anyF_iff f d (i + 1)]
    constructor
    · rintro (h | ⟨j, h1, h2, h3⟩)
      · exact ⟨i, by omega, by omega, h⟩
      · exact ⟨j, by omega, by omega, h3⟩
    · rintro ⟨j, h1, h2, h3⟩
      by_cases e : j = i
      · subst e; exact Or.inl h3
      · exact Or.inr ⟨j, by omega, by omega, h3⟩
/-- two movements of the set that conflict -/
def badq (c : Nat → Int) (a q : Nat) : Bool := a.testBit (q / 4) && a.testBit (q % 4) && decide (c q ≠ -1)
def bad (c : Nat → Int) (a : Nat) : Bool := anyF (badq c a) 16 0
theorem gcf_bad {c : Nat → Int} {a : Nat} (hc : ∀ q, q < 16 → -1 ≤ c q) : ∀ n, n ≤ 16 → -1 ≤ gcf c a a n ∧ (gcf c a a n = -1 ↔ ∀ q, q < n → badq c a q = false)
  | 0, _ => by
    refine ⟨by show (-1 : Int) ≤ -1; omega, ⟨fun _ q hq => absurd hq (by omega), fun _ => rfl⟩⟩
  | n + 1, h => by
    obtain ⟨h1, h2⟩ := gcf_bad (a := a) hc n (by omega)
    have h3 := hc n (by omega)
    have e : gcf c a a (n + 1) = if a.testBit (n / 4) = true ∧ a.testBit (n % 4) = true then imx (gcf c a a n) (c n) else gcf c a a n := rfl
    have hq : (∀ q, q < n + 1 → badq c a q = false) ↔ (∀ q, q < n → badq c a q = false) ∧ badq c a n = false := by
      constructor
      · intro z; exact ⟨fun q hq => z q (by omega), z n (by omega)⟩
      · rintro ⟨z1, z2⟩ q hq
        by_cases eq : q = n
        · subst eq; exact z2
        · exact z1 q (by omega)
    rw [e, hq, ← h2]
    by_cases hb : a.testBit (n / 4) = true ∧ a.testBit (n % 4) = true
    · rw [if_pos hb]
      have hg := @imx_ge (gcf c a a n) (c n)
      refine ⟨by omega, ?_⟩
      unfold badq
      rw [hb.1, hb.2, Bool.true_and, Bool.true_and, decide_eq_false_iff_not]
      rcases imx_cases (gcf c a a n) (c n) with z | z <;> rw [z] at hg ⊢ <;> omega
    · rw [if_neg hb]
      refine ⟨h1, ?_⟩
      have : badq c a n = false := by
        unfold badq
        cases z1 : a.testBit (n / 4) with
        | false => rfl
        | true =>
          cases z2 : a.testBit (n % 4) with
          | false => rfl
          | true => exact absurd ⟨z1, z2⟩ hb
      simp [this]
section BD
variable {fu k : Nat} {s : Nat → Nat} {c f : Nat → Int} {cy : Int} {S : Mem}
theorem s_conf (hfu : 8 ≤ fu) (hJ : SJ S k s c f cy) (ho : okJ s c f cy) {a : Nat} (ha : a < 16) : f_X3_hasConflictIn fu k (i32 (a : Int)) S = some (bo (bad c a)) := by
  unfold f_X3_hasConflictIn f_X3_hasConflictIn_15
  have hg := gcf_b (a := a) (b := a) ho.2.1 16 (by omega)
  obtain ⟨h1, h2⟩ := gcf_bad (a := a) (fun q hq => (ho.2.1 q hq).1) 16 (by omega)
  rw [s_gc hfu ha ha hJ.2.2.2.1 ho.2.1, b1s]
  unfold bad
  cases hb : anyF (badq c a) 16 0 with
  | false =>
    have : gcf c a a 16 = -1 := h2.mpr (fun q hq => by
      cases hz : badq c a q with
      | false => rfl
      | true => have := (anyF_iff (badq c a) 16 0).mpr ⟨q, by omega, by omega, hz⟩; rw [hb] at this; cases this)
    rw [this, ← q_m1, if_pos rfl, nb_0]; rfl
  | true =>
    obtain ⟨q, -, hq, hz⟩ := (anyF_iff (badq c a) 16 0).mp hb
    have : gcf c a a 16 ≠ -1 := fun z => by
      have := h2.mp z q (by omega)
      rw [hz] at this; cases this
    rw [if_neg (fun z => this ((q_eq (by omega) (by omega) (by omega) (by omega)).mp (z.trans q_m1))), nb_1]; rfl
theorem m_bad2 (hM : SM S k s c f cy) (ho : okJ s c f cy) {a : Nat} (ha : a < 16) : ∀ d q n : Nat, q + d = 16 → d < n → f_X8_isBad_2 fu (i32 (k : Int)) (i32 (a : Int)) S n (i32 (q : Int)) = some (bo (anyF (badq c a) d q)) := by
  intro d
  have hk := hM.1
  induction d with
  | zero =>
    intro q n hq hn
    obtain ⟨n, rfl⟩ : ∃ n', n = n' + 1 := ⟨n - 1, by omega⟩
    rw [f_X8_isBad_2, q_16, leT (by omega) (by omega) (by omega), nb_0]
    rfl
  | succ d ih =>
    intro q n hq hn
    obtain ⟨n, rfl⟩ : ∃ n', n = n' + 1 := ⟨n - 1, by omega⟩
    have ih' := ih (q + 1) n (by omega) (by omega)
    have hc := ho.2.1 q (by omega)
    have e : anyF (badq c a) (d + 1) q = (badq c a q || anyF (badq c a) d (q + 1)) := rfl
    have e3 : i32 (q : Int) + 1 = i32 ((q + 1 : Nat) : Int) := by rw [q_1, q_add]; rfl
    have ear : f_X8_areIn fu (i32 (k : Int)) (i32 (a : Int)) (i32 ((q / 4 : Nat) : Int)) (i32 ((q % 4 : Nat) : Int)) S = some (bo (badq c a q)) := by
      unfold f_X8_areIn f_X8_areIn_37 f_X8_areIn_38 badq
      rw [s_has ha (by omega), b1s]
      cases a.testBit (q / 4) with
      | false => rw [boF rfl, nb_0]; rfl
      | true =>
        rw [boT rfl, s_has ha (by omega), b1s, Bool.true_and]
        cases a.testBit (q % 4) with
        | false => rw [boF rfl, nb_0]; rfl
        | true =>
          unfold f_X8_conflict
          rw [boT rfl, q_16, q_4, q_mul, q_mul, q_add, q_add, b1s, gdt (q_inb (by omega) (by omega) (by omega)), q_nat (by omega) (by omega), show (16 * (k : Int) + 4 * ((q / 4 : Nat) : Int) + ((q % 4 : Nat) : Int)).toNat = 16 * k + q by omega, hM.2.2.2.2.1 q (by omega), Bool.true_and]
          by_cases e1 : c q = -1
          · rw [if_pos (show i32 (c q) = (-1 : Int32) by rw [q_m1, e1]), nb_0, decide_eq_false (by omega)]; rfl
          · rw [if_neg (fun z => e1 ((q_eq (by omega) (by omega) (by omega) (by omega)).mp (z.trans q_m1))), nb_1, decide_eq_true e1]; rfl
    rw [e, f_X8_isBad_2, q_16, leF (by omega) (by omega) (by omega), gdt (by decide +kernel), gdt (by decide +kernel), q_rm4 (q := q) (by omega), q_dv4 (q := q) (by omega), ear, b1s, e3]
    cases badq c a q with
    | false => rw [boF rfl, Bool.false_or]; exact ih'
    | true => rw [boT rfl, nb_1, Bool.true_or]; rfl
theorem m_bad (hfu : 20 ≤ fu) (hM : SM S k s c f cy) (ho : okJ s c f cy) {a : Nat} (ha : a < 16) : f_X8_isBad fu (i32 (k : Int)) (i32 (a : Int)) S = some (bo (bad c a)) := m_bad2 hM ho ha 16 0 fu (by omega) (by omega)
end BD
