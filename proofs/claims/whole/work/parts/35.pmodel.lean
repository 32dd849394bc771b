/-! The model's plan. -/
theorem q_dv4 {q : Nat} (h : q < 1000) : i32 (q : Int) / 4 = i32 ((q / 4 : Nat) : Int) := by
  rw [q_4, q_div (by omega) (by omega) (by omega) (by omega), q_quot (by omega)]
  congr 1
theorem q_rm4 {q : Nat} (h : q < 1000) : i32 (q : Int) - i32 (q : Int) / 4 * 4 = i32 ((q % 4 : Nat) : Int) := by
  rw [q_4, s_rem (by omega) (by omega) (by omega) (by omega), Int.tmod_eq_emod_of_nonneg (by omega)]
  congr 1
/-- a junction's settings as the model has them -/
def SM (S : Mem) (k : Nat) (s : Nat → Nat) (c f : Nat → Int) (cy : Int) : Prop := k < 5 ∧ S.1 22 0 k = i32 (mny s : Int) ∧ S.1 8 0 2 = i32 cy ∧ (∀ p, p < mny s → S.1 21 0 (4 * k + p) = i32 (s p : Int)) ∧ (∀ q, q < 16 → S.1 20 0 (16 * k + q) = i32 (c q)) ∧ ∀ m, m < 4 → S.1 23 0 (4 * k + m) = i32 (f m)
def frM (k : Nat) (S S' : Mem) : Prop := (∀ a b i : Nat, (b ≠ 0 ∨ ((a ≠ 27 ∨ i / 4 ≠ k) ∧ (a ≠ 28 ∨ i / 4 ≠ k) ∧ (a ≠ 29 ∨ i ≠ k))) → S'.1 a b i = S.1 a b i) ∧ S'.2 = S.2
theorem frM.rf {k : Nat} {S : Mem} : frM k S S := ⟨fun _ _ _ _ => rfl, rfl⟩
theorem frM.trans {k : Nat} {S S' S2 : Mem} (h : frM k S S') (h' : frM k S' S2) : frM k S S2 := ⟨fun a b i hq => (h'.1 a b i hq).trans (h.1 a b i hq), h'.2.trans h.2⟩
theorem frM.w {k c j : Nat} {v : Int32} {S : Mem} (h : ((c = 27 ∨ c = 28) ∧ j / 4 = k) ∨ (c = 29 ∧ j = k)) : frM k S (wI S c 0 j v) := ⟨fun a b i hq => w_ne (by omega), rfl⟩
theorem SM.fr {S S' : Mem} {k k' : Nat} {s : Nat → Nat} {c f : Nat → Int} {cy : Int} (h : SM S k s c f cy) (hf : frM k' S S') : SM S' k s c f cy := by
  obtain ⟨h0, h1, h2, h3, h4, h5⟩ := h
  exact ⟨h0, (hf.1 _ _ _ (by omega)).trans h1, (hf.1 _ _ _ (by omega)).trans h2, fun p hp => (hf.1 _ _ _ (by omega)).trans (h3 p hp), fun q hq => (hf.1 _ _ _ (by omega)).trans (h4 q hq), fun m hm => (hf.1 _ _ _ (by omega)).trans (h5 m hm)⟩
section MO
variable {fu k : Nat} {s : Nat → Nat} {c f : Nat → Int} {cy : Int} {S : Mem}
theorem m_cl38 (h : SM S k s c f cy) (ho : okJ s c f cy) {a b : Nat} (ha : a < 16) (hb : b < 16) {x2 : Int32} : ∀ d q n : Nat, q + d = 16 → d < n → f_X8_clearingOf_38 fu (i32 (k : Int)) x2 S n (i32 (a : Int)) (i32 (b : Int)) (i32 (mxs (cl2 c a b) q)) (i32 (q : Int)) = some (i32 (mxs (cl2 c a b) 16)) := by
  intro d
  have hk := h.1
  induction d with
  | zero =>
    intro q n hq hn
    obtain ⟨n, rfl⟩ : ∃ n', n = n' + 1 := ⟨n - 1, by omega⟩
    have : q = 16 := by omega
    subst this
    rw [f_X8_clearingOf_38, q_16, leT (by omega) (by omega) (by omega)]
  | succ d ih =>
    intro q n hq hn
    obtain ⟨n, rfl⟩ : ∃ n', n = n' + 1 := ⟨n - 1, by omega⟩
    have ih' := ih (q + 1) n (by omega) (by omega)
    have e2 : mxs (cl2 c a b) (q + 1) = imx (mxs (cl2 c a b) q) (cl2 c a b q) := rfl
    have hx0 := mxs_nn (cl2 c a b) q
    have hx9 : mxs (cl2 c a b) q ≤ 9 := mxs_le (by omega) q (fun i hi => by
      unfold cl2; split
      · exact (ho.2.1 i (by omega)).2
      · omega)
    have hc := ho.2.1 q (by omega)
    rw [e2] at ih'
    have e84 : ∀ v : Int, -1 ≤ v → v ≤ 9 → v = cl2 c a b q → f_X8_clearingOf_84 fu (f_X8_clearingOf_38 fu (i32 (k : Int)) x2 S n) (i32 (k : Int)) x2 S (i32 (a : Int)) (i32 (b : Int)) (i32 (mxs (cl2 c a b) q)) (i32 (q : Int)) (i32 v) = some (i32 (mxs (cl2 c a b) 16)) := by
      intro v hv1 hv2 hv
      unfold f_X8_clearingOf_84 f_X8_clearingOf_100
      rw [← hv] at ih'
      by_cases e : v ≤ mxs (cl2 c a b) q
      · rw [leT e (by omega) (by omega), q_1, q_add]
        rw [imx_le e] at ih'
        exact ih'
      · rw [leF (by omega) (by omega) (by omega), q_1, q_add]
        rw [imx_lt (by omega)] at ih'
        exact ih'
    rw [f_X8_clearingOf_38, q_16, leF (by omega) (by omega) (by omega), gdt (by decide +kernel), q_rm4 (q := q) (by omega), q_dv4 (q := q) (by omega), s_has ha (by omega), b1s]
    cases h1 : a.testBit (q / 4) with
    | false =>
      rw [boF rfl, f_X8_clearingOf_83, q_0]
      exact e84 0 (by omega) (by omega) (by unfold cl2; rw [h1, if_neg (by simp)])
    | true =>
      rw [boT rfl, gdt (by decide +kernel), s_has hb (by omega), b1s]
      cases h2 : b.testBit (q % 4) with
      | false =>
        rw [boF rfl, f_X8_clearingOf_83, q_0]
        exact e84 0 (by omega) (by omega) (by unfold cl2; rw [h2, if_neg (by simp)])
      | true =>
        rw [boT rfl, q_mul, q_add, gdt (q_inb (by omega) (by omega) (by omega)), q_nat (by omega) (by omega), show (16 * (k : Int) + (q : Int)).toNat = 16 * k + q by omega, h.2.2.2.2.1 q (by omega)]
        exact e84 (c q) hc.1 hc.2 (by unfold cl2; rw [h1, h2, if_pos ⟨rfl, rfl⟩])
theorem q_mod {a m : Nat} (hm : 0 < m) (hm4 : m ≤ 4) (ha : a ≤ m) : i32 (a : Int) - i32 (a : Int) / i32 (m : Int) * i32 (m : Int) = i32 ((if a < m then a else 0 : Nat) : Int) := by
  rw [s_rem (by omega) (by omega) (by omega) (by omega), Int.tmod_eq_emod_of_nonneg (by omega)]
  congr 1
  split
  · exact Int.emod_eq_of_lt (by omega) (by omega)
  · rw [show a = m by omega, Int.emod_self]; rfl
theorem m_ne {a : Int} (h1 : 0 < a) (h2 : a < 2147483648) : (!(i32 a == 0)) = true := by
  rw [Bool.not_eq_true', beq_eq_false_iff_ne, q_0]
  exact fun h => absurd ((q_eq (by omega) (by omega) (by omega) (by omega)).mp h) (by omega)
theorem m_clearingOf (hfu : 20 ≤ fu) (h : SM S k s c f cy) (ho : okJ s c f cy) {p : Nat} (hp : p < mny s) : f_X8_clearingOf fu (i32 (k : Int)) (i32 (p : Int)) S = some (i32 (clr s c p)) := by
  have hk := h.1
  have hm := mny_le s
  have hn := nxt_lt (m := mny s) (p := p) (by omega)
  unfold f_X8_clearingOf
  rw [q_4, q_mul, q_add, gdt (q_inb (by omega) (by omega) (by omega)), gdt (q_inb (by omega) (by omega) (by omega)), q_nat (a := (k : Int)) (by omega) (by omega), show ((k : Int)).toNat = k by omega, h.2.1, gdt (m_ne (by omega) (by omega)), q_1, q_add]
  have e := q_mod (a := p + 1) (m := mny s) (by omega) hm.2 (by omega)
  have e0 : (if p + 1 < mny s then p + 1 else 0) = nxt (mny s) p := rfl
  rw [e0] at e
  have e1 : i32 ((p : Int) + 1) = i32 ((p + 1 : Nat) : Int) := rfl
  rw [e1, e, q_add, gdt (q_inb (by omega) (by omega) (by omega)), q_nat (by omega) (by omega), q_nat (by omega) (by omega), show (4 * (k : Int) + (p : Int)).toNat = 4 * k + p by omega, show (4 * (k : Int) + (nxt (mny s) p : Int)).toNat = 4 * k + nxt (mny s) p by omega, h.2.2.2.1 p hp, h.2.2.2.1 _ hn, q_0]
  exact m_cl38 h ho (ho.1 p (by omega)) (ho.1 _ (by omega)) 16 0 fu (by omega) (by omega)
theorem m_leastOf (h : SM S k s c f cy) (ho : okJ s c f cy) {p : Nat} (hp : p < mny s) : f_X8_leastOf fu (i32 (k : Int)) (i32 (p : Int)) S = some (i32 (lst s p)) := by
  have hk := h.1
  have hm := mny_le s
  unfold f_X8_leastOf f_X8_leastOf_23
  rw [q_4, q_mul, q_add, gdt (q_inb (by omega) (by omega) (by omega)), q_nat (by omega) (by omega), show (4 * (k : Int) + (p : Int)).toNat = 4 * k + p by omega, h.2.2.2.1 p hp, q_3]
  have := s_has (fu := fu) (S := S) (ho.1 p (by omega)) (show 3 < 4 by omega)
  rw [show ((3 : Nat) : Int) = 3 from rfl] at this
  rw [this, b1s]
  unfold lst
  cases (s p).testBit 3 with
  | false => rw [boF rfl, if_neg (by simp), q_5]
  | true => rw [boT rfl, if_pos rfl, q_8]
theorem m_weight5 (h : SM S k s c f cy) (ho : okJ s c f cy) {p : Nat} (hp : p < mny s) : ∀ d m n : Nat, m + d = 4 → d < n → f_X8_weight_5 fu (i32 (k : Int)) (i32 (p : Int)) S n (i32 (mxs (fun m => if (s p).testBit m = true then f m else 0) m)) (i32 (m : Int)) = some (i32 (wgt s f p)) := by
  intro d
  have hk := h.1
  have hm4 := mny_le s
  induction d with
  | zero =>
    intro m n hm hn
    obtain ⟨n, rfl⟩ : ∃ n', n = n' + 1 := ⟨n - 1, by omega⟩
    have : m = 4 := by omega
    subst this
    rw [f_X8_weight_5, q_4, leT (by omega) (by omega) (by omega)]
    rfl
  | succ d ih =>
    intro m n hm hn
    obtain ⟨n, rfl⟩ : ∃ n', n = n' + 1 := ⟨n - 1, by omega⟩
    have ih' := ih (m + 1) n (by omega) (by omega)
    have hf := ho.2.2.1 m (by omega)
    have hx : mxs (fun m => if (s p).testBit m = true then f m else 0) m ≤ 1800 := mxs_le (by omega) m (fun i hi => by
      split
      · exact (ho.2.2.1 i (by omega)).2
      · omega)
    have hx0 := mxs_nn (fun m => if (s p).testBit m = true then f m else 0) m
    have e2 : mxs (fun m => if (s p).testBit m = true then f m else 0) (m + 1) = imx (mxs (fun m => if (s p).testBit m = true then f m else 0) m) (if (s p).testBit m = true then f m else 0) := rfl
    rw [e2] at ih'
    have e44 : ∀ v : Int, 0 ≤ v → v ≤ 1800 → v = (if (s p).testBit m = true then f m else 0) → f_X8_weight_44 fu (f_X8_weight_5 fu (i32 (k : Int)) (i32 (p : Int)) S n) (i32 (k : Int)) (i32 (p : Int)) S (i32 (mxs (fun m => if (s p).testBit m = true then f m else 0) m)) (i32 (m : Int)) (i32 v) = some (i32 (wgt s f p)) := by
      intro v hv1 hv2 hv
      unfold f_X8_weight_44 f_X8_weight_58
      rw [← hv] at ih'
      by_cases e : v ≤ mxs (fun m => if (s p).testBit m = true then f m else 0) m
      · rw [leT e (by omega) (by omega), q_1, q_add]
        rw [imx_le e] at ih'
        exact ih'
      · rw [leF (by omega) (by omega) (by omega), q_1, q_add]
        rw [imx_lt (by omega)] at ih'
        exact ih'
    rw [f_X8_weight_5, q_4, leF (by omega) (by omega) (by omega), q_mul, q_add, gdt (q_inb (by omega) (by omega) (by omega)), q_nat (by omega) (by omega), show (4 * (k : Int) + (p : Int)).toNat = 4 * k + p by omega, h.2.2.2.1 p hp, s_has (ho.1 p (by omega)) (by omega), b1s]
    cases hb : (s p).testBit m with
    | false =>
      rw [boF rfl, q_0]
      exact e44 0 (by omega) (by omega) (by rw [hb, if_neg (by simp)])
    | true =>
      rw [boT rfl, q_add, gdt (q_inb (by omega) (by omega) (by omega)), q_nat (by omega) (by omega), show (4 * (k : Int) + (m : Int)).toNat = 4 * k + m by omega, h.2.2.2.2.2 m (by omega)]
      exact e44 (f m) hf.1 hf.2 (by rw [hb, if_pos rfl])
theorem m_weight (hfu : 8 ≤ fu) (h : SM S k s c f cy) (ho : okJ s c f cy) {p : Nat} (hp : p < mny s) : f_X8_weight fu (i32 (k : Int)) (i32 (p : Int)) S = some (i32 (wgt s f p)) := by
  unfold f_X8_weight
  rw [q_0]
  exact m_weight5 h ho hp 4 0 fu (by omega) (by omega)
end MO
