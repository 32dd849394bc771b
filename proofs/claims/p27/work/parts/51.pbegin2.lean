/-! begin: the model's side, and the start. -/
def K0 (S : Mem) (k : Nat) : Prop := S.1 22 0 k = i32 2 ∧ S.1 21 0 (4 * k) = i32 3 ∧ S.1 21 0 (4 * k + 1) = i32 12 ∧ S.1 24 0 k = i32 0 ∧ S.1 30 0 k = i32 0 ∧ S.1 31 0 k = i32 0 ∧ S.1 34 0 k = 0
def C0f (jn : Nat) (cy : Int) : Cf := (jn, cy, fun _ => s0, fun _ => c0, fun _ => f0, fun _ => 0, fun _ => 10, fun _ => 20)
def V0f : Rn := (false, 0, 0, 0, 0, fun _ => 0, fun _ => 0, fun _ => [], fun _ => none)
theorem okC0 {jn : Nat} {cy : Int} (hj : 2 ≤ jn ∧ jn ≤ 5) (hcy : 30 ≤ cy ∧ cy ≤ 90) : okC (C0f jn cy) := ⟨hj.1, hj.2, hcy.1, hcy.2, fun _ _ => ⟨okJ0 hcy, by show (0 : Int) ≤ 0; omega, by show (0 : Int) < cy; omega⟩, fun _ _ => by
  show (1 : Int) ≤ 10 ∧ (10 : Int) ≤ 60 ∧ (1 : Int) ≤ 20 ∧ (20 : Int) ≤ 40
  omega⟩
theorem okV0 {jn : Nat} {cy : Int} : okV (C0f jn cy) V0f := by
  refine ⟨by decide, by decide, by decide, by decide, by decide, by decide, by decide, by decide, fun _ _ => (by show (0 : Int) ≤ 0 ∧ (0 : Int) ≤ 7200 ∧ (0 : Int) ≤ 0 ∧ (0 : Int) ≤ 2; omega), by decide, fun _ _ => ⟨?_, fun e he => absurd he List.not_mem_nil, List.Pairwise.nil⟩, fun _ => ⟨rfl, fun _ _ => ⟨rfl, rfl, rfl, rfl⟩⟩, fun _ _ b hb => by cases hb⟩
  show ((0 : Nat) : Int) + 0 ≤ 20
  omega
theorem k_reset {fu jn : Nat} {cy : Int} {S : Mem} (hfu : 100 ≤ fu) (hj : 2 ≤ jn ∧ jn ≤ 5) (hcy : 30 ≤ cy ∧ cy ≤ 90) : ∃ S' : Mem, f_X1_reset fu (i32 (jn : Int)) (i32 cy) S = some ((), S') ∧ kcC S' (C0f jn cy) ∧ (S'.1 6 0 1 = i32 0 → S'.1 6 0 2 = i32 0 → S'.1 6 0 3 = i32 0 → S'.1 6 0 4 = i32 0 → S'.1 6 0 5 = bo false → kcV S' (C0f jn cy) V0f) ∧ (∀ i, S'.1 6 0 i = S.1 6 0 i) ∧ (∀ k, k < jn → J0 S' k cy) := by
  obtain ⟨S', e1, e2, e3, e4, e5⟩ := s_reset (S := S) hfu hj.2 hcy
  refine ⟨S', e1, ⟨e3, e4, fun k hk => ?_, fun k hk => ?_⟩, fun t1 t2 t3 t4 t5 => ⟨t1, t2, t3, t4, t5, fun k hk => ?_, fun k hk => ?_⟩, e5, e2⟩
  · obtain ⟨h1, h2, h3, -⟩ := e2 k hk
    exact ⟨h1, h2, h3⟩
  · have hk : k + 1 < jn := hk
    obtain ⟨h1, h2, h3, h4, h5, h6, h7, h8, h9, h10⟩ := e2 k (by omega)
    exact ⟨h7, h8⟩
  · obtain ⟨h1, h2, h3, h4, h5, h6, h7, h8, h9, h10⟩ := e2 k hk
    exact ⟨h4, h5, h6⟩
  · have hk : k + 1 < jn := hk
    obtain ⟨h1, h2, h3, h4, h5, h6, h7, h8, h9, h10⟩ := e2 k (by omega)
    exact ⟨h9, fun r hr => h10 r hr⟩
