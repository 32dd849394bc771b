/-! The class's plan: its loops answer the plan in whole numbers. -/
theorem q_2 : (2 : Int32) = i32 2 := rfl
theorem q_3 : (3 : Int32) = i32 3 := rfl
theorem q_4 : (4 : Int32) = i32 4 := rfl
theorem q_5 : (5 : Int32) = i32 5 := rfl
theorem q_8 : (8 : Int32) = i32 8 := rfl
theorem q_16 : (16 : Int32) = i32 16 := rfl
theorem q_40 : (40 : Int32) = i32 40 := rfl
theorem q_61 : (61 : Int32) = i32 61 := rfl
theorem w_eq {S : Mem} {c k j : Nat} {v : Int32} : (wI S c k j v).1 c k j = v := if_pos ⟨rfl, rfl, rfl⟩
theorem w_ne {S : Mem} {c k j a b i : Nat} {v : Int32} (h : ¬ (a = c ∧ b = k ∧ i = j)) : (wI S c k j v).1 a b i = S.1 a b i := if_neg h
theorem q_jmax {a b : Int} (h1 : -2147483648 ≤ a) (h2 : a < 2147483648) (h3 : -2147483648 ≤ b) (h4 : b < 2147483648) : jmax (i32 a) (i32 b) = i32 (imx a b) := by
  unfold jmax imx
  by_cases h : a < b
  · rw [if_pos ((q_lt h1 h2 h3 h4).mpr h), if_pos h]
  · rw [if_neg (fun z => h ((q_lt h1 h2 h3 h4).mp z)), if_neg h]
theorem ltT {a b : Int} {α : Type} {x y : α} (h : a < b) (h1 : -2147483648 ≤ a) (h4 : b < 2147483648) : (if i32 a < i32 b then x else y) = x := if_pos ((q_lt h1 (by omega) (by omega) h4).mpr h)
theorem ltF {a b : Int} {α : Type} {x y : α} (h : b ≤ a) (h1 : -2147483648 ≤ b) (h4 : a < 2147483648) : (if i32 a < i32 b then x else y) = y := if_neg (fun z => absurd ((q_lt (by omega) h4 h1 (by omega)).mp z) (by omega))
theorem leT {a b : Int} {α : Type} {x y : α} (h : a ≤ b) (h1 : -2147483648 ≤ a) (h4 : b < 2147483648) : (if i32 a ≤ i32 b then x else y) = x := if_pos ((q_le h1 (by omega) (by omega) h4).mpr h)
theorem leF {a b : Int} {α : Type} {x y : α} (h : b < a) (h1 : -2147483648 ≤ b) (h4 : a < 2147483648) : (if i32 a ≤ i32 b then x else y) = y := if_neg (fun z => absurd ((q_le (by omega) h4 h1 (by omega)).mp z) (by omega))
theorem eqT {a b : Int} {α : Type} {x y : α} (h : a = b) : (if i32 a = i32 b then x else y) = x := if_pos (by rw [h])
theorem eqF {a b : Int} {α : Type} {x y : α} (h : a ≠ b) (h1 : -2147483648 ≤ a) (h2 : a < 2147483648) (h3 : -2147483648 ≤ b) (h4 : b < 2147483648) : (if i32 a = i32 b then x else y) = y := if_neg (fun z => h ((q_eq h1 h2 h3 h4).mp z))
theorem boT {α : Type} {b : Bool} {x y : α} (h : b = true) : (if bo b = 0 then x else y) = y := by
  subst h; exact if_neg (by decide +kernel)
theorem boF {α : Type} {b : Bool} {x y : α} (h : b = false) : (if bo b = 0 then x else y) = x := by
  subst h; exact if_pos (by decide +kernel)
/-- a junction's settings as the class has them -/
def SJ (S : Mem) (k : Nat) (s : Nat → Nat) (c f : Nat → Int) (cy : Int) : Prop := S.1 3 k 7 = i32 (mny s : Int) ∧ S.1 3 k 8 = i32 cy ∧ (∀ p, p < 4 → S.1 12 k p = i32 (s p : Int)) ∧ (∀ q, q < 16 → S.1 11 k q = i32 (c q)) ∧ ∀ m, m < 4 → S.1 13 k m = i32 (f m)
def okJ (s : Nat → Nat) (c f : Nat → Int) (cy : Int) : Prop := (∀ p, p < 4 → s p < 16) ∧ (∀ q, q < 16 → -1 ≤ c q ∧ c q ≤ 9) ∧ (∀ m, m < 4 → 0 ≤ f m ∧ f m ≤ 1800) ∧ 30 ≤ cy ∧ cy ≤ 90
/-- nothing but a junction's plan is another -/
def frP (k : Nat) (S S' : Mem) : Prop := (∀ a b i : Nat, (b ≠ k ∨ (a ≠ 14 ∧ a ≠ 15 ∧ a ≠ 16 ∧ (a ≠ 3 ∨ i ≠ 10))) → S'.1 a b i = S.1 a b i) ∧ S'.2 = S.2
theorem frP.rf {k : Nat} {S : Mem} : frP k S S := ⟨fun _ _ _ _ => rfl, rfl⟩
theorem frP.trans {k : Nat} {S S' S2 : Mem} (h : frP k S S') (h' : frP k S' S2) : frP k S S2 := ⟨fun a b i hq => (h'.1 a b i hq).trans (h.1 a b i hq), h'.2.trans h.2⟩
theorem frP.w {k c j : Nat} {v : Int32} {S : Mem} (h : c = 14 ∨ c = 15 ∨ c = 16 ∨ (c = 3 ∧ j = 10)) : frP k S (wI S c k j v) := ⟨fun a b i hq => w_ne (by omega), rfl⟩
theorem SJ.fr {S S' : Mem} {k : Nat} {s : Nat → Nat} {c f : Nat → Int} {cy : Int} (h : SJ S k s c f cy) (hf : frP k S S') : SJ S' k s c f cy := by
  obtain ⟨h1, h2, h3, h4, h5⟩ := h
  refine ⟨(hf.1 _ _ _ (by omega)).trans h1, (hf.1 _ _ _ (by omega)).trans h2, fun p hp => (hf.1 _ _ _ (by omega)).trans (h3 p hp), fun q hq => (hf.1 _ _ _ (by omega)).trans (h4 q hq), fun m hm => (hf.1 _ _ _ (by omega)).trans (h5 m hm)⟩
/-- the greatest clearance between two sets, -1 for none -/
def gcf (c : Nat → Int) (a b : Nat) : Nat → Int
  | 0 => -1
  | n + 1 => if a.testBit (n / 4) = true ∧ b.testBit (n % 4) = true then imx (gcf c a b n) (c n) else gcf c a b n
theorem gcf_b {c : Nat → Int} {a b : Nat} (hc : ∀ q, q < 16 → -1 ≤ c q ∧ c q ≤ 9) : ∀ n, n ≤ 16 → -1 ≤ gcf c a b n ∧ gcf c a b n ≤ 9
  | 0, _ => by show (-1 : Int) ≤ -1 ∧ (-1 : Int) ≤ 9; omega
  | n + 1, h => by
    have h1 := gcf_b (a := a) (b := b) hc n (by omega)
    have h2 := hc n (by omega)
    unfold gcf
    split
    · rcases imx_cases (gcf c a b n) (c n) with e | e <;> rw [e] <;> omega
    · exact h1
theorem imx_a (x y : Int) : imx 0 (imx x y) = imx (imx 0 x) y := by
  unfold imx
  by_cases h1 : x < y <;> by_cases h2 : 0 < x <;> by_cases h3 : 0 < y <;> simp only [h1, h2, h3, if_true, if_false] <;> (repeat (first | split | omega))
theorem imx_b (x : Int) : imx 0 x = imx (imx 0 x) 0 := by
  unfold imx
  by_cases h2 : 0 < x <;> simp only [h2, if_true, if_false] <;> (repeat (first | split | omega))
theorem gcf_mxs {c : Nat → Int} {a b : Nat} : ∀ n, imx 0 (gcf c a b n) = mxs (cl2 c a b) n
  | 0 => by show imx 0 (-1) = 0; decide
  | n + 1 => by
    have ih := gcf_mxs (c := c) (a := a) (b := b) n
    show imx 0 (if a.testBit (n / 4) = true ∧ b.testBit (n % 4) = true then imx (gcf c a b n) (c n) else gcf c a b n) = imx (mxs (cl2 c a b) n) (if a.testBit (n / 4) = true ∧ b.testBit (n % 4) = true then c n else 0)
    rw [← ih]
    split
    · exact imx_a _ _
    · exact imx_b _
section GC
variable {fu k a b : Nat} {S : Mem} {c : Nat → Int}
theorem s_clearanceOf {m o : Nat} (hm : m < 4) (ho : o < 4) (hc : ∀ q, q < 16 → S.1 11 k q = i32 (c q)) : f_X3_clearanceOf fu k (i32 (m : Int)) (i32 (o : Int)) S = some (i32 (c (4 * m + o))) := by
  unfold f_X3_clearanceOf
  rw [q_4, q_mul, q_add, s_read (by omega) (by omega) (by omega), b1s]
  rw [show ((m : Int) * 4 + (o : Int)).toNat = 4 * m + o by omega, hc _ (by omega)]
theorem s_gc14 {K : Int32 → Int32 → Option Int32} (ha : a < 16) (hb : b < 16) (hc : ∀ q, q < 16 → S.1 11 k q = i32 (c q)) (hcb : ∀ q, q < 16 → -1 ≤ c q ∧ c q ≤ 9) {m : Nat} (hm : m < 4) : ∀ d o n : Nat, o + d = 4 → d < n → f_X3_greatestClearance_14 fu K k (i32 (a : Int)) (i32 (b : Int)) S n (i32 (gcf c a b (4 * m + o))) (i32 (m : Int)) (i32 (o : Int)) = K (i32 (gcf c a b (4 * m + 4))) (i32 ((m : Int) + 1)) := by
  intro d
  induction d with
  | zero =>
    intro o n ho hn
    obtain ⟨n, rfl⟩ : ∃ n', n = n' + 1 := ⟨n - 1, by omega⟩
    have : o = 4 := by omega
    subst this
    rw [f_X3_greatestClearance_14, q_4, leT (by omega) (by omega) (by omega), q_1, q_add]
  | succ d ih =>
    intro o n ho hn
    obtain ⟨n, rfl⟩ : ∃ n', n = n' + 1 := ⟨n - 1, by omega⟩
    have h9 := gcf_b (a := a) (b := b) hcb (4 * m + o) (by omega)
    have hc9 := hcb (4 * m + o) (by omega)
    have ih' := ih (o + 1) n (by omega) (by omega)
    have e : i32 (((o + 1 : Nat) : Int)) = i32 (o : Int) + 1 := by rw [q_1, q_add]; rfl
    have e2 : gcf c a b (4 * m + (o + 1)) = if a.testBit m = true ∧ b.testBit o = true then imx (gcf c a b (4 * m + o)) (c (4 * m + o)) else gcf c a b (4 * m + o) := by
      show gcf c a b ((4 * m + o) + 1) = _
      rw [gcf, show (4 * m + o) / 4 = m by omega, show (4 * m + o) % 4 = o by omega]
    rw [e, e2] at ih'
    rw [f_X3_greatestClearance_14, q_4, leF (by omega) (by omega) (by omega), s_hasBit ha hm, b1s]
    cases h1 : a.testBit m with
    | false =>
      rw [h1] at ih'
      rw [boF rfl, f_X3_greatestClearance_51]
      rw [if_neg (by simp)] at ih'
      exact ih'
    | true =>
      rw [h1] at ih'
      rw [boT rfl, s_hasBit hb (by omega), b1s]
      cases h2 : b.testBit o with
      | false =>
        rw [h2] at ih'
        rw [boF rfl, f_X3_greatestClearance_51]
        rw [if_neg (by simp)] at ih'
        exact ih'
      | true =>
        rw [h2] at ih'
        rw [boT rfl, s_clearanceOf hm (by omega) hc, b1s, f_X3_greatestClearance_51, q_jmax (by omega) (by omega) (by omega) (by omega)]
        rw [if_pos ⟨rfl, rfl⟩] at ih'
        exact ih'
theorem s_gc5 (hfu : 8 ≤ fu) (ha : a < 16) (hb : b < 16) (hc : ∀ q, q < 16 → S.1 11 k q = i32 (c q)) (hcb : ∀ q, q < 16 → -1 ≤ c q ∧ c q ≤ 9) : ∀ d m n : Nat, m + d = 4 → d < n → f_X3_greatestClearance_5 fu k (i32 (a : Int)) (i32 (b : Int)) S n (i32 (gcf c a b (4 * m))) (i32 (m : Int)) = some (i32 (gcf c a b 16)) := by
  intro d
  induction d with
  | zero =>
    intro m n hm hn
    obtain ⟨n, rfl⟩ : ∃ n', n = n' + 1 := ⟨n - 1, by omega⟩
    have : m = 4 := by omega
    subst this
    rw [f_X3_greatestClearance_5, q_4, leT (by omega) (by omega) (by omega)]
  | succ d ih =>
    intro m n hm hn
    obtain ⟨n, rfl⟩ : ∃ n', n = n' + 1 := ⟨n - 1, by omega⟩
    rw [f_X3_greatestClearance_5, q_4, leF (by omega) (by omega) (by omega), q_0]
    have h := s_gc14 (fu := fu) (K := f_X3_greatestClearance_5 fu k (i32 (a : Int)) (i32 (b : Int)) S n) ha hb hc hcb (m := m) (by omega) 4 0 fu (by omega) (by omega)
    rw [show 4 * m + 0 = 4 * m by omega] at h
    refine h.trans ?_
    exact ih (m + 1) n (by omega) (by omega)
theorem s_gc (hfu : 8 ≤ fu) (ha : a < 16) (hb : b < 16) (hc : ∀ q, q < 16 → S.1 11 k q = i32 (c q)) (hcb : ∀ q, q < 16 → -1 ≤ c q ∧ c q ≤ 9) : f_X3_greatestClearance fu k (i32 (a : Int)) (i32 (b : Int)) S = some (i32 (gcf c a b 16)) := by
  unfold f_X3_greatestClearance
  rw [q_m1, q_0]
  exact s_gc5 hfu ha hb hc hcb 4 0 fu (by omega) (by omega)
end GC
section LW3
variable {fu k : Nat} {S : Mem} {s : Nat → Nat} {c f : Nat → Int} {cy : Int}
theorem s_leastGreen (h : SJ S k s c f cy) (ho : okJ s c f cy) {p : Nat} (hp : p < 4) : f_X3_leastGreen fu k (i32 (p : Int)) S = some (i32 (lst s p)) := by
  unfold f_X3_leastGreen f_X3_leastGreen_21
  rw [s_read (by omega) (by omega) (by omega), b1s, show ((p : Int)).toNat = p by omega, h.2.2.1 p hp, q_3]
  have := s_hasBit (fu := fu) (S := S) (ho.1 p hp) (show 3 < 4 by omega)
  rw [show ((3 : Nat) : Int) = 3 from rfl] at this
  rw [this, b1s]
  unfold lst
  cases (s p).testBit 3 with
  | false => rw [boF rfl, if_neg (by simp), q_5]
  | true => rw [boT rfl, if_pos rfl, q_8]
theorem s_weight4 (h : SJ S k s c f cy) (ho : okJ s c f cy) {p : Nat} (hp : p < 4) : ∀ d m n : Nat, m + d = 4 → d < n → f_X3_weightOf_4 fu k (i32 (p : Int)) S n (i32 (mxs (fun m => if (s p).testBit m = true then f m else 0) m)) (i32 (m : Int)) = some (i32 (wgt s f p)) := by
  intro d
  induction d with
  | zero =>
    intro m n hm hn
    obtain ⟨n, rfl⟩ : ∃ n', n = n' + 1 := ⟨n - 1, by omega⟩
    have : m = 4 := by omega
    subst this
    rw [f_X3_weightOf_4, q_4, leT (by omega) (by omega) (by omega)]
    rfl
  | succ d ih =>
    intro m n hm hn
    obtain ⟨n, rfl⟩ : ∃ n', n = n' + 1 := ⟨n - 1, by omega⟩
    have ih' := ih (m + 1) n (by omega) (by omega)
    have e : i32 (((m + 1 : Nat) : Int)) = i32 (m : Int) + 1 := by rw [q_1, q_add]; rfl
    have hf := ho.2.2.1 m (by omega)
    have hx : mxs (fun m => if (s p).testBit m = true then f m else 0) m ≤ 1800 := mxs_le (by omega) m (fun i hi => by
      split
      · exact (ho.2.2.1 i (by omega)).2
      · omega)
    have hx0 := mxs_nn (fun m => if (s p).testBit m = true then f m else 0) m
    rw [e] at ih'
    rw [f_X3_weightOf_4, q_4, leF (by omega) (by omega) (by omega), s_read (by omega) (by omega) (by omega), b1s, show ((p : Int)).toNat = p by omega, h.2.2.1 p hp, s_hasBit (ho.1 p hp) (by omega), b1s]
    have e2 : mxs (fun m => if (s p).testBit m = true then f m else 0) (m + 1) = imx (mxs (fun m => if (s p).testBit m = true then f m else 0) m) (if (s p).testBit m = true then f m else 0) := rfl
    rw [e2] at ih'
    cases hb : (s p).testBit m with
    | false =>
      rw [hb, if_neg (by simp), imx_le hx0] at ih'
      rw [boF rfl, f_X3_weightOf_37]
      exact ih'
    | true =>
      rw [hb, if_pos rfl] at ih'
      rw [boT rfl, s_read (by omega) (by omega) (by omega), b1s, show ((m : Int)).toNat = m by omega, h.2.2.2.2 m (by omega), f_X3_weightOf_37, q_jmax (by omega) (by omega) (by omega) (by omega)]
      exact ih'
theorem s_weightOf (hfu : 8 ≤ fu) (h : SJ S k s c f cy) (ho : okJ s c f cy) {p : Nat} (hp : p < 4) : f_X3_weightOf fu k (i32 (p : Int)) S = some (i32 (wgt s f p)) := by
  unfold f_X3_weightOf
  rw [q_0]
  exact s_weight4 h ho hp 4 0 fu (by omega) (by omega)
theorem s_share {x y : Int} (hx0 : 0 ≤ x) (hx : x < 2147483648) (hy0 : 0 < y) (hy : y < 2147483648) : f_X7_share fu (i32 x) (i32 y) S = some (i32 (x.tdiv y)) := by
  unfold f_X7_share f_X7_share_11
  have hne : (!(i32 y == i32 0)) = true := by
    rw [Bool.not_eq_true', beq_eq_false_iff_ne]
    exact fun h => absurd ((q_eq (by omega) (by omega) (by omega) (by omega)).mp h) (by omega)
  rw [q_0, leF (by omega) (by omega) (by omega), gdt hne, q_div (by omega) hx hy0 hy]
end LW3
