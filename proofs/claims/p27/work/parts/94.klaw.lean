/-! THE LAW: whatever the script, two of a kind answer alike, and as they should. -/
section LW
variable {fu : Nat} {S S2 : Mem}
def LAI (S S2 : Mem) : Prop := ∃ (C : Cf) (V : Rn), OK C V ∧ KS S C V ∧ KS S2 C V
def LAR (o : Option (Int32 × Mem × Mem)) : Prop := ∃ S' S2' : Mem, o = some (1, S', S2')
theorem cell_t {xs : Nat → Int32} {Ln x : Nat} (hx : x < 1000) (hL : Ln ≤ 260) : ∃ v : Int32, f_L_cell xs Ln (i32 (x : Int)) = some v := by
  have e : Int32.ofNat Ln = i32 (Ln : Int) := rfl
  unfold f_L_cell
  rw [e]
  by_cases h : Ln ≤ x
  · exact ⟨_, leT (by omega) (by omega) (by omega)⟩
  · exact ⟨xs ((i32 (x : Int)).toNatClampNeg), by rw [leF (by omega) (by omega) (by omega), gdt (q_inb (by omega) (by omega) (by omega))]⟩
variable {xs : Nat → Int32} {Ln : Nat}
theorem l_265 (hfu : 700 ≤ fu) (h : LAI S S2) : LAR (f_L_law_265 fu xs Ln 1 S S2) := by
  obtain ⟨C, V, h1, h2, h3⟩ := h
  obtain ⟨S', T', a1, a2, a3⟩ := g_alike (fu := fu) (by omega) h1 h2 h3
  obtain ⟨S'', b1, b2⟩ := g_plans (fu := fu) (a := 0) (by omega) h1 (h2.same a2) (by omega)
  refine ⟨S'', T', ?_⟩
  have b1' : f_L_arePlansSo fu 0 S' = some (1, S'') := b1
  unfold f_L_law_265 f_L_law_291
  rw [if_neg (by decide +kernel), a1, b3s, if_neg (by decide +kernel), b1', b2s, if_neg (by decide +kernel)]
variable {K : Int32 → Int32 → Mem → Mem → Option (Int32 × Mem × Mem)} {x5 : Int32}
theorem l_201 (hfu : 700 ≤ fu) (hK : ∀ S S2, LAI S S2 → LAR (K 1 (x5 + 1) S S2)) (h : LAI S S2) (x6 : Int32) : LAR (f_L_law_201 fu K xs Ln x5 x6 1 S S2) := by
  obtain ⟨C, V, h1, h2, h3⟩ := id h
  have hj := h1.j
  unfold f_L_law_201 f_L_law_257 f_L_law_259
  by_cases c1 : x5 ≤ 20
  · rw [if_pos c1]
    exact hK S S2 h
  · rw [if_neg c1, gdt (by decide +kernel)]
    by_cases c2 : x5 - x5 / 7 * 7 = 5
    · obtain ⟨r, r1, r2⟩ := low_b (fu := fu) (x := x6 >>> (3 &&& 31)) (n := (cJ C : Int)) (by omega)
      obtain ⟨m, m1, m2⟩ := low_b (fu := fu) (x := x6 >>> (6 &&& 31)) (n := 4) (by omega)
      obtain ⟨k, rfl⟩ : ∃ k : Nat, r = (k : Int) := ⟨r.toNat, by omega⟩
      obtain ⟨m, rfl⟩ : ∃ k : Nat, m = (k : Int) := ⟨m.toNat, by omega⟩
      have m2' : f_L_low fu (x6 >>> (6 &&& 31)) 4 S = some (i32 (m : Int)) := m2 S
      obtain ⟨C', V', S', T', g1, g2, g3, g4⟩ := g_called (m := m) hfu h1 h2 h3 (k := k) (by omega)
      rw [if_pos c2, if_neg (by decide +kernel), a_junctions h2, b1s, r2 S, b1s, m2', b1s, g4, b3s, if_neg (by decide +kernel)]
      exact hK S' T' ⟨C', V', g1, g2, g3⟩
    · rw [if_neg c2]
      exact hK S S2 h
theorem l_189 (hfu : 700 ≤ fu) (hK : ∀ S S2, LAI S S2 → LAR (K 1 (x5 + 1) S S2)) (h : LAI S S2) (x6 : Int32) : LAR (f_L_law_189 fu K xs Ln x5 x6 S S2) := by
  obtain ⟨C, V, h1, h2, h3⟩ := id h
  unfold f_L_law_189
  rw [g_vehicles (by omega) h1 h2, b1s, if_neg (by decide +kernel)]
  exact l_201 hfu hK h x6
theorem l_162 (hfu : 700 ≤ fu) (hK : ∀ S S2, LAI S S2 → LAR (K 1 (x5 + 1) S S2)) (h : LAI S S2) (x6 : Int32) : LAR (f_L_law_162 fu K xs Ln x5 x6 S S2) := by
  obtain ⟨C, V, h1, h2, h3⟩ := id h
  unfold f_L_law_162
  rw [gdt (by decide +kernel)]
  by_cases c : x5 - x5 / 6 * 6 = 2
  · obtain ⟨r, r1, r2⟩ := low_b (fu := fu) (x := x6 >>> (6 &&& 31)) (n := 500) (by omega)
    obtain ⟨S', b1, b2⟩ := g_plans (fu := fu) (a := r) (by omega) h1 h2 (by omega)
    have r2' : f_L_low fu (x6 >>> (6 &&& 31)) 500 S = some (i32 r) := r2 S
    rw [if_pos c, r2', b1s, b1, b2s, if_neg (by decide +kernel)]
    exact l_189 hfu hK ⟨C, V, h1, h2.same b2, h3⟩ x6
  · rw [if_neg c]
    exact l_189 hfu hK h x6
theorem l_146 (hfu : 700 ≤ fu) (hK : ∀ S S2, LAI S S2 → LAR (K 1 (x5 + 1) S S2)) (h : LAI S S2) (x6 : Int32) : LAR (f_L_law_146 fu K xs Ln x5 x6 S S2) := by
  obtain ⟨C, V, h1, h2, h3⟩ := id h
  unfold f_L_law_146
  rw [gdt (by decide +kernel)]
  by_cases c : x5 - x5 / 5 * 5 = 3
  · obtain ⟨S', T', a1, a2, a3⟩ := g_alike (fu := fu) (by omega) h1 h2 h3
    rw [if_pos c, a1, b3s, if_neg (by decide +kernel)]
    exact l_162 hfu hK ⟨C, V, h1, h2.same a2, h3.same a3⟩ x6
  · rw [if_neg c]
    exact l_162 hfu hK h x6
theorem l_118 (hfu : 700 ≤ fu) (hK : ∀ S S2, LAI S S2 → LAR (K 1 (x5 + 1) S S2)) (h : LAI S S2) (x6 : Int32) : LAR (f_L_law_118 fu K xs Ln x5 x6 S S2) := by
  obtain ⟨C, V, h1, h2, h3⟩ := id h
  obtain ⟨z, C', V', g1, g2, g3⟩ := d_act hfu h1 x6
  obtain ⟨S', s1, s2⟩ := g3 S h2
  unfold f_L_law_118
  rw [s1, b2s]
  by_cases c : z = -99999
  · have hC : C' = C ∧ V' = V := by
      rcases g2 with ⟨-, e1, e2⟩ | ⟨v, e1, e2, e3⟩
      · exact ⟨e1, e2⟩
      · rw [e1, n_99] at c
        have := (q_eq (by omega) (by omega) (by omega) (by omega)).mp c
        omega
    rw [if_pos c]
    exact l_146 hfu hK ⟨C', V', g1, s2, by rw [hC.1, hC.2]; exact h3⟩ x6
  · obtain ⟨T', t1, t2⟩ := g3 S2 h3
    rw [if_neg c, t1, b2s, if_pos rfl]
    exact l_146 hfu hK ⟨C', V', g1, s2, t2⟩ x6
theorem l_66 (hfu : 700 ≤ fu) (hL : Ln ≤ 260) : ∀ (d x n : Nat), x + d = 64 → d < n → ∀ S S2 : Mem, LAI S S2 → LAR (f_L_law_66 fu xs Ln n 1 (i32 (x : Int)) S S2) := by
  intro d
  induction d with
  | zero =>
    intro x n hx hn S S2 h
    obtain ⟨n, rfl⟩ : ∃ n', n = n' + 1 := ⟨n - 1, by omega⟩
    rw [f_L_law_66, show (64 : Int32) = i32 64 from rfl, leT (by omega) (by omega) (by omega)]
    exact l_265 hfu h
  | succ d ih =>
    intro x n hx hn S S2 h
    obtain ⟨n, rfl⟩ : ∃ n', n = n' + 1 := ⟨n - 1, by omega⟩
    have e3 : i32 (x : Int) + 1 = i32 ((x + 1 : Nat) : Int) := by rw [q_1, q_add]; rfl
    have hK : ∀ S S2, LAI S S2 → LAR (f_L_law_66 fu xs Ln n 1 (i32 (x : Int) + 1) S S2) := by
      rw [e3]
      exact ih (x + 1) n (by omega) (by omega)
    obtain ⟨v, hv⟩ := cell_t (xs := xs) (x := x) (by omega) hL
    obtain ⟨r, -, hr⟩ := low_b (fu := fu) (x := v) (n := 18) (by omega)
    have hr' : f_L_low fu v 18 S = some (i32 r) := hr S
    rw [f_L_law_66, show (64 : Int32) = i32 64 from rfl, leF (by omega) (by omega) (by omega), if_neg (by decide +kernel), hv]
    by_cases c : (16 : Int32) ≤ i32 (x : Int)
    · rw [if_pos c, b1s]
      exact l_118 hfu hK h v
    · rw [if_neg c, b1s, gdt (by decide +kernel), b1s, hr', b1s]
      exact l_118 hfu hK h _
theorem law_all (hfu : 700 ≤ fu) (hL : Ln ≤ 260) (S S2 : Mem) : LAR (f_L_law fu xs Ln S S2) := by
  obtain ⟨v, hv⟩ := cell_t (xs := xs) (x := 0) (by omega) hL
  have hv' : f_L_cell xs Ln 0 = some v := hv
  obtain ⟨r, r1, hr⟩ := low_b (fu := fu) (x := v) (n := 3) (by omega)
  obtain ⟨j, rfl⟩ : ∃ k : Nat, r = (k : Int) := ⟨r.toNat, by omega⟩
  have hr' : f_L_low fu v 3 S = some (i32 (j : Int)) := hr S
  have hb : ∀ S : Mem, ∃ S', f_L_does fu 8 (2 + i32 (j : Int)) 60 0 0 S = some (i32 0, S') ∧ KS S' (C0f (j + 2) 60) V0f := fun S => by
    obtain ⟨S', s1, s2⟩ := k_begin (fu := fu) (jn := j + 2) (b := 60) (by omega) (by omega) (by omega) S
    refine ⟨S', ?_, s2⟩
    have s1' : fx_L_begin fu (i32 ((j + 2 : Nat) : Int)) 60 S = some (.inr (i32 0), S') := s1
    rw [does8, show (2 : Int32) = i32 2 from rfl, q_add, show (2 : Int) + (j : Int) = ((j + 2 : Nat) : Int) by omega, s1', b2s, bzr]
  obtain ⟨S', s1, s2⟩ := hb S
  obtain ⟨T', t1, t2⟩ := hb S2
  unfold f_L_law f_L_law_61
  rw [hv', b1s, hr', b1s, s1, b2s, if_pos (by decide +kernel), t1, b2s, if_pos (by decide +kernel)]
  exact l_66 hfu hL 63 1 65 (by omega) (by omega) S' T' ⟨_, _, OK0 (by omega) (by omega), s2, t2⟩
theorem lawOK (hfu : 700 ≤ fu) : LawOK fu := by
  obtain ⟨S, s1, -⟩ := k_init (fu := fu) (by omega)
  exact ⟨S, s1, fun xs Ln hL => law_all hfu hL S S⟩
end LW
