/-! bestByAll. -/
def mxF (F : Nat → Int) : Nat → Nat → Int → Int
  | 0, _, acc => acc
  | d + 1, x, acc => mxF F d (x + 1) (imx acc (F x))
theorem imx_leI {a b B : Int} : imx a b ≤ B ↔ a ≤ B ∧ b ≤ B := by
  unfold imx
  split <;> omega
theorem mxF_le (F : Nat → Int) (B : Int) : ∀ (d x : Nat) (acc : Int), mxF F d x acc ≤ B ↔ acc ≤ B ∧ ∀ y, x ≤ y → y < x + d → F y ≤ B
  | 0, x, acc => ⟨fun h => ⟨h, fun y h1 h2 => absurd h2 (by omega)⟩, fun h => h.1⟩
  | d + 1, x, acc => by
    rw [mxF, mxF_le F B d (x + 1), imx_leI]
    constructor
    · intro ⟨⟨h1, h2⟩, h3⟩
      refine ⟨h1, fun y h4 h5 => ?_⟩
      by_cases e : y = x
      · rw [e]; exact h2
      · exact h3 y (by omega) (by omega)
    · intro ⟨h1, h2⟩
      exact ⟨⟨h1, h2 x (by omega) (by omega)⟩, fun y h4 h5 => h2 y (by omega) (by omega)⟩
theorem mxF_ge (F : Nat → Int) : ∀ (d x : Nat) (acc : Int), acc ≤ mxF F d x acc := fun d x acc => ((mxF_le F _ d x acc).mp (Int.le_refl _)).1
theorem mxF_cg {F G : Nat → Int} : ∀ (d x : Nat) (acc : Int), (∀ y, x ≤ y → y < x + d → F y = G y) → mxF F d x acc = mxF G d x acc
  | 0, _, _, _ => rfl
  | d + 1, x, acc, h => by rw [mxF, mxF, h x (by omega) (by omega), mxF_cg d (x + 1) _ (fun y h1 h2 => h y (by omega) (by omega))]
theorem mxF_sq (G : Nat → Nat → Int) (n : Nat) (hn : 1 ≤ n) : mxF (fun x => mxF (G x) n 0 0) n 0 0 = mxF (fun z => G (z % n) (z / n)) (n * n) 0 0 := by
  have key : ∀ B, mxF (fun x => mxF (G x) n 0 0) n 0 0 ≤ B ↔ mxF (fun z => G (z % n) (z / n)) (n * n) 0 0 ≤ B := fun B => by
    rw [mxF_le, mxF_le]
    constructor
    · intro ⟨h1, h2⟩
      refine ⟨h1, fun z _ hz => ?_⟩
      have := (mxF_le _ _ _ _ _).mp (h2 (z % n) (Nat.zero_le _) (by have := Nat.mod_lt z hn; omega))
      exact this.2 (z / n) (Nat.zero_le _) (by have := Nat.div_lt_of_lt_mul (show z < n * n by omega); omega)
    · intro ⟨h1, h2⟩
      refine ⟨h1, fun x _ hx => (mxF_le _ _ _ _ _).mpr ⟨h1, fun y _ hy => ?_⟩⟩
      have h3 : x + n * y < n * n := by
        have := Nat.mul_le_mul_left n (show y + 1 ≤ n by omega)
        rw [Nat.mul_add] at this
        omega
      have h4 := h2 (x + n * y) (by omega) (by omega)
      rw [Nat.add_mul_mod_self_left, Nat.mod_eq_of_lt (by omega), Nat.add_mul_div_left _ _ hn, Nat.div_eq_of_lt (by omega), Nat.zero_add] at h4
      exact h4
  have a := (key _).mp (Int.le_refl _)
  have b := (key _).mpr (Int.le_refl _)
  omega
/-- what two sets of free seconds share, one of them a junction's with an offset -/
def shF (C : Cf) (n k : Nat) (p q : Nat → Bool) (x : Nat) : Int := cntF (fun t => p t && gF C k x t) n 0 + cntF (fun t => q t && gB C k x t) n 0
theorem shF_b (C : Cf) (n k : Nat) (p q : Nat → Bool) (x : Nat) : 0 ≤ shF C n k p q x ∧ shF C n k p q x ≤ 2 * n := by
  have h1 := cntF_b (fun t => p t && gF C k x t) n 0
  have h2 := cntF_b (fun t => q t && gB C k x t) n 0
  unfold shF
  omega
theorem imx_bI {a b B : Int} (ha : 0 ≤ a ∧ a ≤ B) (hb : 0 ≤ b ∧ b ≤ B) : 0 ≤ imx a b ∧ imx a b ≤ B := by
  unfold imx
  split <;> omega
theorem q_jmaxI {a b : Int} (ha : 0 ≤ a ∧ a ≤ 1000) (hb : 0 ≤ b ∧ b ≤ 1000) : jmax (i32 a) (i32 b) = i32 (imx a b) := by
  unfold jmax imx
  by_cases h : a < b
  · rw [ltT h (by omega) (by omega), if_pos h]
  · rw [ltF (by omega) (by omega) (by omega), if_neg h]
theorem gF_per {C : Cf} {n k t : Nat} (hn : cCy C = (n : Int)) : gF C k ((n : Nat) : Int) t = gF C k ((0 : Nat) : Int) t := by
  unfold gF
  rw [hn, show (t : Int) + sml (cLs C) k 0 - (n : Int) = ((t : Int) + sml (cLs C) k 0 - ((0 : Nat) : Int)) + (n : Int) * (-1) by omega, Int.add_mul_emod_self_left]
theorem gB_per {C : Cf} {n k t : Nat} (hn : cCy C = (n : Int)) : gB C k ((n : Nat) : Int) t = gB C k ((0 : Nat) : Int) t := by
  unfold gB
  rw [hn, show (t : Int) + sml (cLs C) (cJ C - 1 - k) k - (n : Int) = ((t : Int) + sml (cLs C) (cJ C - 1 - k) k - ((0 : Nat) : Int)) + (n : Int) * (-1) by omega, Int.add_mul_emod_self_left]
section BA
variable {fu : Nat} {C : Cf}
theorem s_gr5 {n k i1 i2 : Nat} {p q : Nat → Bool} (hn : cCy C = (n : Int)) (h1 : okC C) (hne : i1 ≠ i2) : ∀ (d x m : Nat) (acc : Int) (S : Mem), x + d = n → d < m → 0 ≤ acc → acc ≤ 2 * n → S.1 1 0 2 = i32 (cCy C) → FS S i1 n p q → FS S i2 n (gF C k x) (gB C k x) → ∃ S' : Mem, f_X0_greatestOverOffsets_5 fu i1 i2 m (i32 acc) (i32 (x : Int)) S = some (i32 (mxF (shF C n k p q) d x acc), S') ∧ fsF i2 S S' ∧ FS S' i2 n (gF C k (n : Int)) (gB C k (n : Int)) := by
  intro d
  have hcy := h1.2.2
  induction d with
  | zero =>
    intro x m acc S hx hm ha1 ha2 h12 hF1 hF2
    obtain ⟨m, rfl⟩ : ∃ m', m = m' + 1 := ⟨m - 1, by omega⟩
    obtain rfl : x = n := by omega
    rw [f_X0_greatestOverOffsets_5, h12, hn, leT (by omega) (by omega) (by omega)]
    exact ⟨S, rfl, fsF.rf, hF2⟩
  | succ d ih =>
    intro x m acc S hx hm ha1 ha2 h12 hF1 hF2
    obtain ⟨m, rfl⟩ : ∃ m', m = m' + 1 := ⟨m - 1, by omega⟩
    have hb := shF_b C n k p q x
    obtain ⟨S1, a1, a2, a3⟩ := s_turn2 (fu := fu) (by omega) hF2
    have a3' : FS S1 i2 n (gF C k ((x + 1 : Nat) : Int)) (gB C k ((x + 1 : Nat) : Int)) := a3.cg (fun t ht => gF_rot hn (by omega) _ t ht) (fun t ht => gB_rot hn (by omega) _ t ht)
    have h12' : S1.1 1 0 2 = i32 (cCy C) := by rw [a2.1]; exact h12
    have e3 : i32 (x : Int) + 1 = i32 ((x + 1 : Nat) : Int) := by rw [q_1, q_add]; rfl
    have hc : f_X2_countCommon fu i1 i2 S = some (i32 (shF C n k p q x)) := s_cnt2 (by omega) hF1 hF2
    have hi := imx_bI ⟨ha1, ha2⟩ hb
    obtain ⟨S', g1, g2, g3⟩ := ih (x + 1) m (imx acc (shF C n k p q x)) S1 (by omega) (by omega) hi.1 hi.2 h12' (hF1.fr a2 hne) a3'
    rw [f_X0_greatestOverOffsets_5, h12, hn, leF (by omega) (by omega) (by omega), hc, b1s, a1, b2s, e3, q_jmaxI (by omega) (by omega)]
    exact ⟨S', g1, fsF.trans a2 g2, g3⟩
theorem s_great {n k i1 i2 : Nat} {p q : Nat → Bool} {S : Mem} (hfu : 200 ≤ fu) (hn : cCy C = (n : Int)) (h1 : okC C) (hne : i1 ≠ i2) (h12 : S.1 1 0 2 = i32 (cCy C)) (hF1 : FS S i1 n p q) (hF2 : FS S i2 n (gF C k ((0 : Nat) : Int)) (gB C k ((0 : Nat) : Int))) : ∃ S' : Mem, f_X0_greatestOverOffsets fu i1 i2 S = some (i32 (mxF (shF C n k p q) n 0 0), S') ∧ fsF i2 S S' ∧ FS S' i2 n (gF C k ((0 : Nat) : Int)) (gB C k ((0 : Nat) : Int)) := by
  have hcy := h1.2.2
  obtain ⟨S', g1, g2, g3⟩ := s_gr5 (fu := fu) (k := k) hn h1 hne n 0 fu 0 S (by omega) (by omega) (by omega) (by omega) h12 hF1 hF2
  exact ⟨S', g1, g2, g3.cg (fun t _ => gF_per hn) (fun t _ => gB_per hn)⟩
theorem mxF_b {F : Nat → Int} {B : Int} (hF : ∀ x, 0 ≤ F x ∧ F x ≤ B) (hB : 0 ≤ B) (d x : Nat) : 0 ≤ mxF F d x 0 ∧ mxF F d x 0 ≤ B := ⟨mxF_ge F d x 0, (mxF_le F B d x 0).mpr ⟨hB, fun y _ _ => (hF y).2⟩⟩
/-- the best of the third junction's offsets -/
def in3 (C : Cf) (n : Nat) (o : Int) (x : Nat) : Nat → Int := shF C n 2 (fun t => gF C 0 o t && gF C 1 x t) (fun t => gB C 0 o t && gB C 1 x t)
theorem s_b68 {n : Nat} {o : Int} (hfu : 200 ≤ fu) (hn : cCy C = (n : Int)) (h1 : okC C) : ∀ (d x m : Nat) (acc : Int) (S : Mem), x + d = n → d < m → 0 ≤ acc → acc ≤ 2 * n → S.1 1 0 2 = i32 (cCy C) → FS S 0 n (gF C 0 o) (gB C 0 o) → FS S 1 n (gF C 1 x) (gB C 1 x) → FS S 3 n (gF C 2 ((0 : Nat) : Int)) (gB C 2 ((0 : Nat) : Int)) → ∃ S' : Mem, f_X0_bestOverAllOffsets_68 fu m (i32 acc) (i32 (x : Int)) S = some (i32 (mxF (fun x => mxF (in3 C n o x) n 0 0) d x acc), S') ∧ S'.1 = S.1 := by
  intro d
  have hcy := h1.2.2
  induction d with
  | zero =>
    intro x m acc S hx hm ha1 ha2 h12 hF0 hF1 hF3
    obtain ⟨m, rfl⟩ : ∃ m', m = m' + 1 := ⟨m - 1, by omega⟩
    rw [f_X0_bestOverAllOffsets_68, h12, hn, leT (by omega) (by omega) (by omega)]
    exact ⟨S, rfl, rfl⟩
  | succ d ih =>
    intro x m acc S hx hm ha1 ha2 h12 hF0 hF1 hF3
    obtain ⟨m, rfl⟩ : ∃ m', m = m' + 1 := ⟨m - 1, by omega⟩
    obtain ⟨S1, a1, a2, a3⟩ := s_com2 (fu := fu) (k := 2) hF0 hF1
    have h12a : S1.1 1 0 2 = i32 (cCy C) := by rw [a2.1]; exact h12
    obtain ⟨S2, c1, c2, c3⟩ := s_great (fu := fu) (k := 2) hfu hn h1 (by omega) h12a a3 (hF3.fr a2 (by omega))
    have h12b : S2.1 1 0 2 = i32 (cCy C) := by rw [c2.1]; exact h12a
    obtain ⟨S3, d1, d2, d3⟩ := s_turn2 (fu := fu) (n := n) (by omega) ((hF1.fr a2 (by omega)).fr c2 (by omega))
    have h12c : S3.1 1 0 2 = i32 (cCy C) := by rw [d2.1]; exact h12b
    have d3' : FS S3 1 n (gF C 1 ((x + 1 : Nat) : Int)) (gB C 1 ((x + 1 : Nat) : Int)) := d3.cg (fun t ht => gF_rot hn (by omega) _ t ht) (fun t ht => gB_rot hn (by omega) _ t ht)
    have hb := mxF_b (F := in3 C n o x) (B := 2 * n) (fun y => shF_b C n 2 _ _ y) (by omega) n 0
    have hi := imx_bI ⟨ha1, ha2⟩ hb
    have e3 : i32 (x : Int) + 1 = i32 ((x + 1 : Nat) : Int) := by rw [q_1, q_add]; rfl
    obtain ⟨S', g1, g2⟩ := ih (x + 1) m (imx acc (mxF (in3 C n o x) n 0 0)) S3 (by omega) (by omega) hi.1 hi.2 h12c (((hF0.fr a2 (by omega)).fr c2 (by omega)).fr d2 (by omega)) d3' (c3.fr d2 (by omega))
    have c1' : f_X0_greatestOverOffsets fu 2 3 S1 = some (i32 (mxF (in3 C n o x) n 0 0), S2) := c1
    rw [f_X0_bestOverAllOffsets_68, h12, hn, leF (by omega) (by omega) (by omega), a1, b2s, c1', b2s, h12b, hn, d1, b2s, e3, q_jmaxI (by omega) (by omega)]
    exact ⟨S', g1, g2.trans (d2.1.trans (c2.1.trans a2.1))⟩
end BA
