/-! begin: the model's side, and the start. -/
theorem m_bg142 {fu : Nat} {x1 x2 : Int32} : ∀ (d q n : Nat) (S : Mem), q + d = 80 → d < n → (∀ r, r < q → S.1 20 0 r = i32 (c0 (r % 16))) → (∀ j, 4 * j < q → S.1 23 0 j = i32 0) → ∃ S' : Mem, f_X8_begins_142 fu x1 x2 n (i32 (q : Int)) S = some ((), S') ∧ (∀ r, r < 80 → S'.1 20 0 r = i32 (c0 (r % 16))) ∧ (∀ j, j < 20 → S'.1 23 0 j = i32 0) ∧ (∀ a b i, a ≠ 20 ∧ a ≠ 23 → S'.1 a b i = S.1 a b i) ∧ S'.2 = S.2 := by
  intro d
  induction d with
  | zero =>
    intro q n S hq hn h1 h2
    obtain ⟨n, rfl⟩ : ∃ n', n = n' + 1 := ⟨n - 1, by omega⟩
    refine ⟨S, ?_, fun r hr => h1 r (by omega), fun j hj => h2 j (by omega), fun _ _ _ _ => rfl, rfl⟩
    rw [f_X8_begins_142, show (80 : Int32) = i32 80 from rfl, leT (by omega) (by omega) (by omega)]
  | succ d ih =>
    intro q n S hq hn h1 h2
    obtain ⟨n, rfl⟩ : ∃ n', n = n' + 1 := ⟨n - 1, by omega⟩
    obtain ⟨S', e1, e2, e3, e4, e5⟩ := ih (q + 1) n (wI (wI S 20 0 q (i32 (c0 (q % 16)))) 23 0 (q / 4) 0) (by omega) (by omega) (fun r hr => by
      rw [w_ne (by omega), w_ok]
      by_cases e : r = q
      · subst e; rw [if_pos ⟨rfl, rfl, rfl⟩]
      · rw [if_neg (by omega)]; exact h1 r (by omega)) (fun j hj => by
      rw [w_ok]
      by_cases e : j = q / 4
      · rw [if_pos ⟨rfl, rfl, e⟩]; rfl
      · rw [if_neg (by omega), w_ne (by omega)]; exact h2 j (by omega))
    refine ⟨S', ?_, e2, e3, fun a b i hab => (e4 a b i hab).trans ((w_ne (by omega)).trans (w_ne (by omega))), e5⟩
    have e187 : ∀ v : Int, v = c0 (q % 16) → f_X8_begins_187 fu (f_X8_begins_142 fu x1 x2 n) x1 x2 (i32 (q : Int)) (i32 v) (i32 (q : Int)) S = some ((), S') := by
      intro v hv
      unfold f_X8_begins_187
      rw [gdt (q_inb (by omega) (by omega) (by omega)), gdt (by decide +kernel), q_dv4 (q := q) (by omega), gdt (q_inb (by omega) (by omega) (by omega)), q_nat (by omega) (by omega), q_nat (by omega) (by omega), show ((q : Int)).toNat = q by omega, show (((q / 4 : Nat) : Int)).toNat = q / 4 by omega, hv, q_1, q_add]
      exact e1
    have e167 : ∀ u : Int, (u = 0 ∧ 2 ≤ q / 4 % 4 ∨ u = 1 ∧ ¬ 2 ≤ q / 4 % 4) → f_X8_begins_167 fu (f_X8_begins_142 fu x1 x2 n) x1 x2 (i32 (q : Int)) (i32 u) (i32 (q : Int)) S = some ((), S') := by
      intro u hu
      unfold f_X8_begins_167 f_X8_begins_179
      rw [gdt (by decide +kernel), q_rm4 (q := q) (by omega), q_m1, q_2, q_0, q_1, q_3]
      by_cases e : 2 ≤ q % 4
      · rw [leT (by omega) (by omega) (by omega)]
        rcases hu with ⟨rfl, hu⟩ | ⟨rfl, hu⟩
        · rw [eqT rfl]; exact e187 _ (by unfold c0; rw [if_neg (by omega)])
        · rw [eqF (by omega) (by omega) (by omega) (by omega) (by omega)]; exact e187 _ (by unfold c0; rw [if_pos (by omega)])
      · rw [leF (by omega) (by omega) (by omega)]
        rcases hu with ⟨rfl, hu⟩ | ⟨rfl, hu⟩
        · rw [eqF (by omega) (by omega) (by omega) (by omega) (by omega)]; exact e187 _ (by unfold c0; rw [if_pos (by omega)])
        · rw [eqT rfl]; exact e187 _ (by unfold c0; rw [if_neg (by omega)])
    rw [f_X8_begins_142, show (80 : Int32) = i32 80 from rfl, leF (by omega) (by omega) (by omega), gdt (by decide +kernel), gdt (by decide +kernel), q_dv4 (q := q) (by omega), q_rm4 (q := q / 4) (by omega), q_2]
    by_cases e : 2 ≤ q / 4 % 4
    · rw [leT (by omega) (by omega) (by omega)]; exact e167 0 (Or.inl ⟨rfl, e⟩)
    · rw [leF (by omega) (by omega) (by omega)]; exact e167 1 (Or.inr ⟨rfl, e⟩)
theorem m_bg106 {fu : Nat} {x1 x2 : Int32} (hfu : 100 ≤ fu) : ∀ (d k n : Nat) (S : Mem), k + d = 4 → d < n → (∀ r, r < k → S.1 25 0 r = i32 10 ∧ S.1 26 0 r = i32 20 ∧ S.1 32 0 r = i32 0) → ∃ S' : Mem, f_X8_begins_106 fu x1 x2 n (i32 (k : Int)) S = some ((), S') ∧ (∀ r, r < 80 → S'.1 20 0 r = i32 (c0 (r % 16))) ∧ (∀ j, j < 20 → S'.1 23 0 j = i32 0) ∧ (∀ r, r < 4 → S'.1 25 0 r = i32 10 ∧ S'.1 26 0 r = i32 20 ∧ S'.1 32 0 r = i32 0) ∧ (∀ a b i, a ≠ 20 ∧ a ≠ 23 ∧ a ≠ 25 ∧ a ≠ 26 ∧ a ≠ 32 → S'.1 a b i = S.1 a b i) ∧ S'.2 = S.2 := by
  intro d
  induction d with
  | zero =>
    intro k n S hk hn h1
    obtain ⟨n, rfl⟩ : ∃ n', n = n' + 1 := ⟨n - 1, by omega⟩
    obtain ⟨S', e1, e2, e3, e4, e5⟩ := m_bg142 (fu := fu) (x1 := x1) (x2 := x2) 80 0 fu S (by omega) (by omega) (fun r hr => absurd hr (by omega)) (fun j hj => absurd hj (by omega))
    refine ⟨S', ?_, e2, e3, fun r hr => ?_, fun a b i hab => e4 a b i (by omega), e5⟩
    · rw [f_X8_begins_106, q_4, leT (by omega) (by omega) (by omega)]; exact e1
    · have := h1 r (by omega)
      rw [e4 _ _ _ (by omega), e4 _ _ _ (by omega), e4 _ _ _ (by omega)]; exact this
  | succ d ih =>
    intro k n S hk hn h1
    obtain ⟨n, rfl⟩ : ∃ n', n = n' + 1 := ⟨n - 1, by omega⟩
    obtain ⟨S', e1, e2, e3, e4, e5, e6⟩ := ih (k + 1) n (wI (wI (wI S 25 0 k 10) 26 0 k 20) 32 0 k 0) (by omega) (by omega) (fun r hr => by
      by_cases e : r = k
      · subst e
        refine ⟨by rw [w_ne (by omega), w_ne (by omega), w_eq]; rfl, by rw [w_ne (by omega), w_eq]; rfl, by rw [w_eq]; rfl⟩
      · have := h1 r (by omega)
        rw [w_ne (by omega), w_ne (by omega), w_ne (by omega), w_ne (by omega), w_ne (by omega), w_ne (by omega), w_ne (by omega), w_ne (by omega), w_ne (by omega)]; exact this)
    refine ⟨S', ?_, e2, e3, e4, fun a b i hab => (e5 a b i hab).trans ((w_ne (by omega)).trans ((w_ne (by omega)).trans (w_ne (by omega)))), e6⟩
    rw [f_X8_begins_106, q_4, leF (by omega) (by omega) (by omega), gdt (q_inb (by omega) (by omega) (by omega)), gdt (q_inb (by omega) (by omega) (by omega)), gdt (q_inb (by omega) (by omega) (by omega)), q_nat (by omega) (by omega), show ((k : Int)).toNat = k by omega, q_1, q_add]
    exact e1
def K0 (S : Mem) (k : Nat) : Prop := S.1 22 0 k = i32 2 ∧ S.1 21 0 (4 * k) = i32 3 ∧ S.1 21 0 (4 * k + 1) = i32 12 ∧ S.1 24 0 k = i32 0 ∧ S.1 30 0 k = i32 0 ∧ S.1 31 0 k = i32 0 ∧ S.1 34 0 k = 0
theorem m_bg37 {fu : Nat} {x1 x2 : Int32} (hfu : 100 ≤ fu) : ∀ (d k n : Nat) (S : Mem), k + d = 5 → d < n → (∀ r, r < k → K0 S r) → ∃ S' : Mem, f_X8_begins_37 fu x1 x2 n (i32 (k : Int)) S = some ((), S') ∧ (∀ r, r < 80 → S'.1 20 0 r = i32 (c0 (r % 16))) ∧ (∀ j, j < 20 → S'.1 23 0 j = i32 0) ∧ (∀ r, r < 4 → S'.1 25 0 r = i32 10 ∧ S'.1 26 0 r = i32 20 ∧ S'.1 32 0 r = i32 0) ∧ (∀ r, r < 5 → K0 S' r) ∧ (∀ i, S'.1 8 0 i = S.1 8 0 i) ∧ S'.2 = S.2 := by
  intro d
  induction d with
  | zero =>
    intro k n S hk hn h1
    obtain ⟨n, rfl⟩ : ∃ n', n = n' + 1 := ⟨n - 1, by omega⟩
    obtain ⟨S', e1, e2, e3, e4, e5, e6⟩ := m_bg106 (fu := fu) (x1 := x1) (x2 := x2) hfu 4 0 fu S (by omega) (by omega) (fun r hr => absurd hr (by omega))
    refine ⟨S', ?_, e2, e3, e4, fun r hr => ?_, fun i => e5 _ _ _ (by omega), e6⟩
    · rw [f_X8_begins_37, q_5, leT (by omega) (by omega) (by omega)]; exact e1
    · have := h1 r (by omega)
      unfold K0 at *
      rw [e5 _ _ _ (by omega), e5 _ _ _ (by omega), e5 _ _ _ (by omega), e5 _ _ _ (by omega), e5 _ _ _ (by omega), e5 _ _ _ (by omega), e5 _ _ _ (by omega)]; exact this
  | succ d ih =>
    intro k n S hk hn h1
    obtain ⟨n, rfl⟩ : ∃ n', n = n' + 1 := ⟨n - 1, by omega⟩
    obtain ⟨S', e1, e2, e3, e4, e5, e6, e7⟩ := ih (k + 1) n (wI (wI (wI (wI (wI (wI (wI S 22 0 k 2) 21 0 (4 * k) 3) 21 0 (4 * k + 1) 12) 24 0 k 0) 30 0 k 0) 31 0 k 0) 34 0 k (nb 0)) (by omega) (by omega) (fun r hr => by
      unfold K0
      by_cases e : r = k
      · subst e
        refine ⟨?_, ?_, ?_, ?_, ?_, ?_, ?_⟩
        · rw [w_ne (by omega), w_ne (by omega), w_ne (by omega), w_ne (by omega), w_ne (by omega), w_ne (by omega), w_eq]; rfl
        · rw [w_ne (by omega), w_ne (by omega), w_ne (by omega), w_ne (by omega), w_ne (by omega), w_eq]; rfl
        · rw [w_ne (by omega), w_ne (by omega), w_ne (by omega), w_ne (by omega), w_eq]; rfl
        · rw [w_ne (by omega), w_ne (by omega), w_ne (by omega), w_eq]; rfl
        · rw [w_ne (by omega), w_ne (by omega), w_eq]; rfl
        · rw [w_ne (by omega), w_eq]; rfl
        · rw [w_eq, nb_0]
      · obtain ⟨j1, j2, j3, j4, j5, j6, j7⟩ := h1 r (by omega)
        have far : ∀ a i, ((a = 22 ∨ a = 24 ∨ a = 30 ∨ a = 31 ∨ a = 34) ∧ i = r) ∨ (a = 21 ∧ (i = 4 * r ∨ i = 4 * r + 1)) → (wI (wI (wI (wI (wI (wI (wI S 22 0 k 2) 21 0 (4 * k) 3) 21 0 (4 * k + 1) 12) 24 0 k 0) 30 0 k 0) 31 0 k 0) 34 0 k (nb 0)).1 a 0 i = S.1 a 0 i := fun a i hq => by
          rw [w_ne (by omega), w_ne (by omega), w_ne (by omega), w_ne (by omega), w_ne (by omega), w_ne (by omega), w_ne (by omega)]
        exact ⟨(far _ _ (by omega)).trans j1, (far _ _ (by omega)).trans j2, (far _ _ (by omega)).trans j3, (far _ _ (by omega)).trans j4, (far _ _ (by omega)).trans j5, (far _ _ (by omega)).trans j6, (far _ _ (by omega)).trans j7⟩)
    refine ⟨S', ?_, e2, e3, e4, e5, fun i => (e6 i).trans ?_, e7⟩
    · rw [f_X8_begins_37, q_5, leF (by omega) (by omega) (by omega), gdt (q_inb (by omega) (by omega) (by omega)), q_4, q_mul, gdt (q_inb (by omega) (by omega) (by omega)), q_1, q_add, gdt (q_inb (by omega) (by omega) (by omega)), gdt (q_inb (by omega) (by omega) (by omega)), gdt (q_inb (by omega) (by omega) (by omega)), gdt (q_inb (by omega) (by omega) (by omega)), gdt (q_inb (by omega) (by omega) (by omega)), q_nat (by omega) (by omega), q_nat (by omega) (by omega), q_nat (by omega) (by omega), show ((k : Int)).toNat = k by omega, show (4 * (k : Int)).toNat = 4 * k by omega, show (4 * (k : Int) + 1).toNat = 4 * k + 1 by omega, q_add]
      exact e1
    · rw [w_ne (by omega), w_ne (by omega), w_ne (by omega), w_ne (by omega), w_ne (by omega), w_ne (by omega), w_ne (by omega)]
def C0f (jn : Nat) (cy : Int) : Cf := (jn, cy, fun _ => s0, fun _ => c0, fun _ => f0, fun _ => 0, fun _ => 10, fun _ => 20)
def V0f : Rn := (false, 0, 0, 0, 0, fun _ => 0, fun _ => 0, fun _ => [], fun _ => none)
theorem okC0 {jn : Nat} {cy : Int} (hj : 2 ≤ jn ∧ jn ≤ 5) (hcy : 30 ≤ cy ∧ cy ≤ 90) : okC (C0f jn cy) := ⟨hj.1, hj.2, hcy.1, hcy.2, fun _ _ => ⟨okJ0 hcy, by show (0 : Int) ≤ 0; omega, by show (0 : Int) < cy; omega⟩, fun _ _ => by
  show (1 : Int) ≤ 10 ∧ (10 : Int) ≤ 60 ∧ (1 : Int) ≤ 20 ∧ (20 : Int) ≤ 40
  omega⟩
theorem okV0 {jn : Nat} {cy : Int} : okV (C0f jn cy) V0f := by
  refine ⟨by decide, by decide, by decide, by decide, by decide, by decide, by decide, by decide, fun _ _ => (by show (0 : Int) ≤ 0 ∧ (0 : Int) ≤ 7200 ∧ (0 : Int) ≤ 0 ∧ (0 : Int) ≤ 2; omega), by decide, fun _ _ => ⟨?_, fun e he => absurd he List.not_mem_nil, List.Pairwise.nil⟩, fun _ => ⟨rfl, fun _ _ => ⟨rfl, rfl, rfl, rfl⟩⟩, fun _ _ b hb => by cases hb⟩
  show ((0 : Nat) : Int) + 0 ≤ 20
  omega
theorem m_begins {fu jn : Nat} {cy : Int} {S : Mem} (hfu : 100 ≤ fu) (hj : 2 ≤ jn ∧ jn ≤ 5) : ∃ S' : Mem, f_X8_begins fu (i32 (jn : Int)) (i32 cy) S = some ((), S') ∧ moC S' (C0f jn cy) ∧ moV S' (C0f jn cy) V0f ∧ S'.1 8 0 0 = S.1 8 0 0 := by
  obtain ⟨S', e1, e2, e3, e4, e5, e6, e7⟩ := m_bg37 (fu := fu) (x1 := i32 (jn : Int)) (x2 := i32 cy) hfu 5 0 fu (wI (wI (wI (wI (wI (wI (wI S 8 0 1 (i32 (jn : Int))) 8 0 2 (i32 cy)) 8 0 3 0) 8 0 14 0) 8 0 15 0) 8 0 16 0) 8 0 17 0) (by omega) (by omega) (fun r hr => absurd hr (by omega))
  refine ⟨S', e1, ⟨?_, fun k hk => ?_, fun k hk => ?_⟩, ⟨?_, ?_, ?_, ?_, ?_, fun k hk => ?_, fun k hk => ?_⟩, ?_⟩
  · rw [e6, w_ne (by omega), w_ne (by omega), w_ne (by omega), w_ne (by omega), w_ne (by omega), w_ne (by omega), w_eq]; rfl
  · have hk : k < jn := hk
    obtain ⟨j1, j2, j3, j4, j5, j6, j7⟩ := e5 k (by omega)
    refine ⟨⟨by omega, j1, ?_, fun p hp => ?_, fun q hq => ?_, fun m hm => ?_⟩, j4⟩
    · rw [e6, w_ne (by omega), w_ne (by omega), w_ne (by omega), w_ne (by omega), w_ne (by omega), w_eq]; rfl
    · have hp : p < 2 := hp
      match p, hp with
      | 0, _ => exact j2
      | 1, _ => exact j3
      | p + 2, hp => exact absurd hp (by omega)
    · rw [e2 _ (by omega), show (16 * k + q) % 16 = q by omega]; rfl
    · rw [e3 _ (by omega)]; rfl
  · have hk : k + 1 < jn := hk
    exact ⟨(e4 k (by omega)).1, (e4 k (by omega)).2.1⟩
  · rw [e6, w_ne (by omega), w_ne (by omega), w_ne (by omega), w_eq]; rfl
  · rw [e6, w_ne (by omega), w_ne (by omega), w_eq]; rfl
  · rw [e6, w_ne (by omega), w_eq]; rfl
  · rw [e6, w_eq]; rfl
  · rw [e6, w_ne (by omega), w_ne (by omega), w_ne (by omega), w_ne (by omega), w_eq]; rfl
  · have hk : k < jn := hk
    obtain ⟨j1, j2, j3, j4, j5, j6, j7⟩ := e5 k (by omega)
    exact ⟨j5, j6, j7⟩
  · have hk : k + 1 < jn := hk
    exact ⟨(e4 k (by omega)).2.2, fun i hi => absurd hi (Nat.not_lt_zero _)⟩
  · rw [e6, w_ne (by omega), w_ne (by omega), w_ne (by omega), w_ne (by omega), w_ne (by omega), w_ne (by omega), w_ne (by omega)]
theorem k_reset {fu jn : Nat} {cy : Int} {S : Mem} (hfu : 100 ≤ fu) (hj : 2 ≤ jn ∧ jn ≤ 5) (hcy : 30 ≤ cy ∧ cy ≤ 90) : ∃ S' : Mem, f_X1_reset fu (i32 (jn : Int)) (i32 cy) S = some ((), S') ∧ kcC S' (C0f jn cy) ∧ (S'.1 6 0 1 = i32 0 → S'.1 6 0 2 = i32 0 → S'.1 6 0 3 = i32 0 → S'.1 6 0 4 = i32 0 → S'.1 6 0 5 = bo false → kcV S' (C0f jn cy) V0f) ∧ (∀ i, S'.1 6 0 i = S.1 6 0 i) ∧ (∀ k, k < jn → J0 S' k cy) := by
  obtain ⟨S', e1, e2, e3, e4, e5⟩ := s_reset (S := S) hfu hj.2 hcy
  refine ⟨S', e1, ⟨e3, e4, fun k hk => ?_, fun k hk => ?_⟩, fun t1 t2 t3 t4 t5 => ⟨t1, t2, t3, t4, t5, fun k hk => ?_, fun k hk => ?_⟩, e5, e2⟩
  · obtain ⟨h1, h2, h3, -⟩ := e2 k hk
    exact ⟨h1, h2, h3⟩
  · have hk : k + 1 < jn := hk
    obtain ⟨h1, h2, h3, h4, h5, h6, h7, h8, h9, h10⟩ := e2 k (by omega)
    exact ⟨h7, h8⟩
  · obtain ⟨h1, h2, h3, h4, h5, h6, h7, h8, h9, h10⟩ := e2 k hk
    exact ⟨h4, h5, h6⟩
  · have hk : k + 1 < jn := hk
    obtain ⟨h1, h2, h3, h4, h5, h6, h7, h8, h9, h10⟩ := e2 k (by omega)
    exact ⟨h9, fun r hr => h10 r hr⟩
theorem sim_init (fu : Nat) (hfu : 100 ≤ fu) : ∃ S SR : Mem, f_X1_reset fu 2 60 S00 = some ((), S) ∧ f_X8_begins fu 2 60 S00 = some ((), SR) ∧ RR S SR := by
  obtain ⟨S, e1, e2, e3, e4, -⟩ := k_reset (fu := fu) (jn := 2) (cy := 60) (S := S00) hfu (by omega) (by omega)
  obtain ⟨SR, g1, g2, g3, -⟩ := m_begins (fu := fu) (jn := 2) (cy := 60) (S := S00) hfu (by omega)
  exact ⟨S, SR, e1, g1, C0f 2 60, V0f, okC0 (by omega) (by omega), e2, g2, okV0, e3 (e4 1) (e4 2) (e4 3) (e4 4) (e4 5), g3⟩
theorem sim_begin (fu : Nat) (hfu : 100 ≤ fu) : Sim_begin fu RR := by
  intro S SR x y h
  have hx := q_rng x
  have hy := q_rng y
  rw [← q_self x, ← q_self y]
  generalize x.toInt = a at *
  generalize y.toInt = b at *
  have i1 : f_X8_in fu (i32 a) 2 5 SR = some (bo (decide (2 ≤ a ∧ a ≤ 5))) := s_in (b := 2) (c := 5) (by omega) (by omega) (by omega) (by omega) (by omega) (by omega)
  have i2 : f_X8_in fu (i32 b) 30 90 SR = some (bo (decide (30 ≤ b ∧ b ≤ 90))) := s_in (b := 30) (c := 90) (by omega) (by omega) (by omega) (by omega) (by omega) (by omega)
  have o1 : f_X7_isOutside fu (i32 a) 2 5 S = some (bo (!decide (2 ≤ a ∧ a ≤ 5))) := s_isOutside (b := 2) (c := 5) (by omega) (by omega) (by omega) (by omega) (by omega) (by omega)
  have o2 : f_X7_isOutside fu (i32 b) 30 90 S = some (bo (!decide (30 ≤ b ∧ b ≤ 90))) := s_isOutside (b := 30) (c := 90) (by omega) (by omega) (by omega) (by omega) (by omega) (by omega)
  unfold fx_X7_begin fx_X7_begin_20 f_X8_begin f_X8_begin_25 f_X8_begin_26 f_X8_begin_38
  rw [i1, o1, i2, o2, b1s, b1s, b1s, b1s]
  by_cases g1 : 2 ≤ a ∧ a ≤ 5
  · rw [decide_eq_true g1, Bool.not_true, boF rfl, boT rfl]
    by_cases g2 : 30 ≤ b ∧ b ≤ 90
    · obtain ⟨jn, rfl⟩ : ∃ p : Nat, a = (p : Int) := ⟨a.toNat, by omega⟩
      obtain ⟨T, e1, e2, e3, e4, e5⟩ := k_reset (fu := fu) (jn := jn) (cy := b) (S := S) hfu (by omega) g2
      obtain ⟨TR, r1, r2, r3, r4⟩ := m_begins (fu := fu) (jn := jn) (cy := b) (S := wI SR 8 0 0 0) hfu (by omega)
      rw [decide_eq_true g2, Bool.not_true, boF rfl, boT rfl, e1, b2s, m_holds0, b2s, if_neg (by decide +kernel), r1, b2s]
      unfold f_X6_reset
      rw [b2s]
      generalize hU : wI (wI (wI (wI (wI T 6 0 1 0) 6 0 2 0) 6 0 3 0) 6 0 4 0) 6 0 5 0 = U
      have far : ∀ a b i, a ≠ 6 → U.1 a b i = T.1 a b i := fun a b i hq => by rw [← hU, w_ne (by omega), w_ne (by omega), w_ne (by omega), w_ne (by omega), w_ne (by omega)]
      refine ⟨_, _, _, 0, rfl, rfl, rfl, r4.trans w_eq, C0f jn b, V0f, okC0 (by omega) g2, ?_, r2, okV0, ?_, r3⟩
      · refine ⟨(far _ _ _ (by omega)).trans e2.1, (far _ _ _ (by omega)).trans e2.2.1, fun k hk => ?_, fun k hk => ⟨(far _ _ _ (by omega)).trans (e2.2.2.2 k hk).1, (far _ _ _ (by omega)).trans (e2.2.2.2 k hk).2⟩⟩
        obtain ⟨⟨a1, a2, a3, a4, a5⟩, ⟨b1, b2, b3⟩, g3⟩ := e2.2.2.1 k hk
        exact ⟨⟨(far _ _ _ (by omega)).trans a1, (far _ _ _ (by omega)).trans a2, fun p hp => (far _ _ _ (by omega)).trans (a3 p hp), fun p hp => (far _ _ _ (by omega)).trans (a4 p hp), fun p hp => (far _ _ _ (by omega)).trans (a5 p hp)⟩, ⟨fun p hp => (far _ _ _ (by omega)).trans (b1 p hp), (far _ _ _ (by omega)).trans b2, fun z => ⟨fun p hp => (far _ _ _ (by omega)).trans ((b3 z).1 p hp), fun u hu => (far _ _ _ (by omega)).trans ((b3 z).2 u hu)⟩⟩, (far _ _ _ (by omega)).trans g3⟩
      · refine ⟨?_, ?_, ?_, ?_, ?_, fun k hk => ?_, fun k hk => ?_⟩
        · rw [← hU, w_ne (by omega), w_ne (by omega), w_ne (by omega), w_ne (by omega), w_eq]; rfl
        · rw [← hU, w_ne (by omega), w_ne (by omega), w_ne (by omega), w_eq]; rfl
        · rw [← hU, w_ne (by omega), w_ne (by omega), w_eq]; rfl
        · rw [← hU, w_ne (by omega), w_eq]; rfl
        · rw [← hU, w_eq]; rfl
        · obtain ⟨h1, h2, h3, h4, h5, h6, h7, h8, h9, h10⟩ := e5 k hk
          exact ⟨(far _ _ _ (by omega)).trans h4, (far _ _ _ (by omega)).trans h5, (far 3 k 13 (by omega)).trans h6⟩
        · have hk : k + 1 < jn := hk
          obtain ⟨h1, h2, h3, h4, h5, h6, h7, h8, h9, h10⟩ := e5 k (by omega)
          exact ⟨(far _ _ _ (by omega)).trans h9, fun r hr => (far _ _ _ (by omega)).trans (h10 r hr)⟩
    · rw [decide_eq_false g2, Bool.not_false, boT rfl, boF rfl, m_holdsN (by decide +kernel), b2s, if_pos rfl]
      exact ⟨_, _, _, 1, rfl, rfl, rfl, w_eq, h.mf moF.th⟩
  · rw [decide_eq_false g1, Bool.not_false, boT rfl, boF rfl, m_holdsN (by decide +kernel), b2s, if_pos rfl]
    exact ⟨_, _, _, 1, rfl, rfl, rfl, w_eq, h.mf moF.th⟩
