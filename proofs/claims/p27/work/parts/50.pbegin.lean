/-! begin: the class's side. -/
def s0 : Nat → Nat := s4 3 12 0 0
def c0 (q : Nat) : Int := if (q / 4 < 2 ∧ ¬ q % 4 < 2) ∨ (¬ q / 4 < 2 ∧ q % 4 < 2) then 3 else -1
def f0 (_ : Nat) : Int := 0
theorem mny_s0 : mny s0 = 2 := rfl
theorem okJ0 {cy : Int} (h : 30 ≤ cy ∧ cy ≤ 90) : okJ s0 c0 f0 cy := ⟨fun p hp => by
  unfold s0 s4; split
  · omega
  · split
    · omega
    · split <;> omega, fun q hq => by unfold c0; split <;> omega, fun m hm => by unfold f0; omega, h⟩
theorem s_fill5 {fu ck len k : Nat} {v : Int32} (hl : len < 1000) : ∀ (d i n : Nat) (S : Mem), i + d = len → d < n → (∀ j, j < i → S.1 ck k j = v) → ∃ S' : Mem, f_J7_fill_53178_5 fu ck len k v n (i32 (i : Int)) (i32 (len : Int)) S = some ((), S') ∧ (∀ j, j < len → S'.1 ck k j = v) ∧ (∀ a b j, (a ≠ ck ∨ b ≠ k) → S'.1 a b j = S.1 a b j) ∧ S'.2 = S.2 := by
  intro d
  induction d with
  | zero =>
    intro i n S hi hn h
    obtain ⟨n, rfl⟩ : ∃ n', n = n' + 1 := ⟨n - 1, by omega⟩
    have : i = len := by omega
    subst this
    refine ⟨S, ?_, h, fun _ _ _ _ => rfl, rfl⟩
    rw [f_J7_fill_53178_5, leT (by omega) (by omega) (by omega)]
  | succ d ih =>
    intro i n S hi hn h
    obtain ⟨n, rfl⟩ : ∃ n', n = n' + 1 := ⟨n - 1, by omega⟩
    obtain ⟨S', he, h1, h2, h3⟩ := ih (i + 1) n (wI S ck k i v) (by omega) (by omega) (fun j hj => by
      rw [w_ok]
      by_cases e : j = i
      · rw [if_pos ⟨rfl, rfl, e⟩]
      · rw [if_neg (by omega)]; exact h j (by omega))
    refine ⟨S', ?_, h1, fun a b j hq => (h2 a b j hq).trans (w_ne (by omega)), h3⟩
    rw [f_J7_fill_53178_5, leF (by omega) (by omega) (by omega), gdt (q_inb (by omega) (by omega) (by omega)), q_nat (by omega) (by omega), show ((i : Int)).toNat = i by omega, q_1, q_add]
    exact he
theorem s_fill {fu ck len k : Nat} {v : Int32} {S : Mem} (hl : len < 100) (hfu : 100 ≤ fu) : ∃ S' : Mem, f_J7_fill_53178 fu ck len k v S = some ((), S') ∧ (∀ j, j < len → S'.1 ck k j = v) ∧ (∀ a b j, (a ≠ ck ∨ b ≠ k) → S'.1 a b j = S.1 a b j) ∧ S'.2 = S.2 := by
  obtain ⟨S', he, h⟩ := s_fill5 (fu := fu) (ck := ck) (k := k) (v := v) (len := len) (by omega) len 0 fu S (by omega) (by omega) (fun j hj => absurd hj (by omega))
  refine ⟨S', ?_, h⟩
  unfold f_J7_fill_53178
  rw [nI_i]
  exact he
theorem s_wcl {fu k m o : Nat} {v : Int32} {S : Mem} (hm : m < 4) (ho : o < 4) : f_X3_writeClearance fu k (i32 (m : Int)) (i32 (o : Int)) v S = some ((), wI (wI S 11 k (4 * m + o) v) 11 k (4 * o + m) v) := by
  unfold f_X3_writeClearance
  rw [q_4, q_mul, q_add, s_write (by omega) (by omega) (by omega), b2s, q_mul, q_add, s_write (by omega) (by omega) (by omega), b2s, show ((m : Int) * 4 + (o : Int)).toNat = 4 * m + o by omega, show ((o : Int) * 4 + (m : Int)).toNat = 4 * o + m by omega]
/-- a junction as it is at first -/
def J0 (S : Mem) (k : Nat) (cy : Int) : Prop := SJ S k s0 c0 f0 cy ∧ PLN S k s0 c0 f0 cy ∧ S.1 3 k 9 = i32 0 ∧ S.1 3 k 11 = i32 0 ∧ S.1 3 k 12 = i32 0 ∧ S.1 3 k 13 = i32 0 ∧ S.1 4 k 1 = i32 10 ∧ S.1 4 k 2 = i32 20 ∧ S.1 4 k 3 = i32 0 ∧ ∀ r, r < 61 → S.1 17 k r = i32 0
theorem J0.far {S S' : Mem} {k k' : Nat} {cy : Int} (h : J0 S k cy) (hf : ∀ a b i, b ≠ k' → S'.1 a b i = S.1 a b i) (hk : k ≠ k') : J0 S' k cy := by
  obtain ⟨⟨a1, a2, a3, a4, a5⟩, ⟨b1, b2, b3⟩, h3, h4, h5, h6, h7, h8, h9, h10⟩ := h
  exact ⟨⟨(hf _ _ _ hk).trans a1, (hf _ _ _ hk).trans a2, fun p hp => (hf _ _ _ hk).trans (a3 p hp), fun p hp => (hf _ _ _ hk).trans (a4 p hp), fun p hp => (hf _ _ _ hk).trans (a5 p hp)⟩, ⟨fun p hp => (hf _ _ _ hk).trans (b1 p hp), (hf _ _ _ hk).trans b2, fun z => ⟨fun p hp => (hf _ _ _ hk).trans ((b3 z).1 p hp), fun u hu => (hf _ _ _ hk).trans ((b3 z).2 u hu)⟩⟩, (hf _ _ _ hk).trans h3, (hf _ _ _ hk).trans h4, (hf _ _ _ hk).trans h5, (hf _ _ _ hk).trans h6, (hf _ _ _ hk).trans h7, (hf _ _ _ hk).trans h8, (hf _ _ _ hk).trans h9, fun r hr => (hf _ _ _ hk).trans (h10 r hr)⟩
theorem s_reset3 {fu k : Nat} {cy : Int} {S : Mem} (hfu : 100 ≤ fu) (hcy : 30 ≤ cy ∧ cy ≤ 90) : ∃ S' : Mem, f_X3_reset fu k (i32 cy) S = some ((), S') ∧ J0 S' k cy ∧ (∀ a b i, (b ≠ k ∨ (a ≠ 3 ∧ a ≠ 4 ∧ (a < 11 ∨ 17 < a))) → S'.1 a b i = S.1 a b i) ∧ S'.2 = S.2 := by
  unfold f_X3_reset f_X4_reset
  generalize hA : (wI (wI (wI (wI (wI (wI (wI (wI S 3 k 8 (i32 cy)) 3 k 9 0) 3 k 11 0) 3 k 12 0) 3 k 13 0) 3 k 14 (-1)) 3 k 15 (-1)) 3 k 16 0) = A
  obtain ⟨B, eB, hB1, hB2, hB3⟩ := s_fill (fu := fu) (ck := 17) (len := 61) (k := k) (v := 0) (S := wI (wI (wI A 4 k 1 10) 4 k 2 20) 4 k 3 0) (by omega) hfu
  obtain ⟨D, eD, hD1, hD2, hD3⟩ := s_fill (fu := fu) (ck := 13) (len := 4) (k := k) (v := 0) (S := B) (by omega) hfu
  obtain ⟨E, eE, hE1, hE2, hE3⟩ := s_fill (fu := fu) (ck := 11) (len := 16) (k := k) (v := -1) (S := D) (by omega) hfu
  have w02 : ∀ T, f_X3_writeClearance fu k 0 2 3 T = some ((), wI (wI T 11 k 2 3) 11 k 8 3) := fun T => s_wcl (m := 0) (o := 2) (by omega) (by omega)
  have w03 : ∀ T, f_X3_writeClearance fu k 0 3 3 T = some ((), wI (wI T 11 k 3 3) 11 k 12 3) := fun T => s_wcl (m := 0) (o := 3) (by omega) (by omega)
  have w12 : ∀ T, f_X3_writeClearance fu k 1 2 3 T = some ((), wI (wI T 11 k 6 3) 11 k 9 3) := fun T => s_wcl (m := 1) (o := 2) (by omega) (by omega)
  have w13 : ∀ T, f_X3_writeClearance fu k 1 3 3 T = some ((), wI (wI T 11 k 7 3) 11 k 13 3) := fun T => s_wcl (m := 1) (o := 3) (by omega) (by omega)
  rw [eB, b2s, b2s, eD, b2s, eE, b2s, w02, b2s, w03, b2s, w12, b2s, w13, b2s]
  generalize hF : wI (wI (wI (wI (wI (wI (wI (wI E 11 k 2 3) 11 k 8 3) 11 k 3 3) 11 k 12 3) 11 k 6 3) 11 k 9 3) 11 k 7 3) 11 k 13 3 = F
  have hWs : f_X3_writeSets fu k 3 12 0 0 F = some ((), wI (wI (wI (wI (wI F 12 k 0 3) 12 k 1 12) 12 k 2 0) 12 k 3 0) 3 k 7 2) := by
    unfold f_X3_writeSets f_X3_writeSets_64
    have v0 : ∀ (T : Mem) (v : Int32), f_X7_write fu 12 4 k 0 v T = some ((), wI T 12 k 0 v) := fun T v => s_write (a := 0) (by omega) (by omega) (by omega)
    have v1 : ∀ (T : Mem) (v : Int32), f_X7_write fu 12 4 k 1 v T = some ((), wI T 12 k 1 v) := fun T v => s_write (a := 1) (by omega) (by omega) (by omega)
    have v2 : ∀ (T : Mem) (v : Int32), f_X7_write fu 12 4 k 2 v T = some ((), wI T 12 k 2 v) := fun T v => s_write (a := 2) (by omega) (by omega) (by omega)
    have v3 : ∀ (T : Mem) (v : Int32), f_X7_write fu 12 4 k 3 v T = some ((), wI T 12 k 3 v) := fun T v => s_write (a := 3) (by omega) (by omega) (by omega)
    rw [v0, b2s, v1, b2s, v2, b2s, v3, b2s, if_neg (by decide +kernel), if_pos rfl]
  rw [hWs, b2s]
  generalize hG : wI (wI (wI (wI (wI F 12 k 0 3) 12 k 1 12) 12 k 2 0) 12 k 3 0) 3 k 7 2 = G
  -- what stays from A on
  have hGF : ∀ a b i, (a ≠ 12 ∧ (a ≠ 3 ∨ i ≠ 7)) → G.1 a b i = F.1 a b i := fun a b i hq => by rw [← hG, w_ne (by omega), w_ne (by omega), w_ne (by omega), w_ne (by omega), w_ne (by omega)]
  have hFE : ∀ a b i, a ≠ 11 → F.1 a b i = E.1 a b i := fun a b i hq => by rw [← hF, w_ne (by omega), w_ne (by omega), w_ne (by omega), w_ne (by omega), w_ne (by omega), w_ne (by omega), w_ne (by omega), w_ne (by omega)]
  have hGA : ∀ i, i ≠ 7 → G.1 3 k i = A.1 3 k i := fun i hi => by
    rw [hGF _ _ _ (by omega), hFE _ _ _ (by omega), hE2 _ _ _ (by omega), hD2 _ _ _ (by omega), hB2 _ _ _ (by omega), w_ne (by omega), w_ne (by omega), w_ne (by omega)]
  have hSJ : SJ G k s0 c0 f0 cy := by
    refine ⟨?_, ?_, fun p hp => ?_, fun q hq => ?_, fun m hm => ?_⟩
    · rw [← hG, w_eq]; rfl
    · rw [hGA 8 (by omega), ← hA, w_ne (by omega), w_ne (by omega), w_ne (by omega), w_ne (by omega), w_ne (by omega), w_ne (by omega), w_ne (by omega), w_eq]
    · rw [← hG]
      match p, hp with
      | 0, _ => rw [w_ne (by omega), w_ne (by omega), w_ne (by omega), w_ne (by omega), w_eq]; rfl
      | 1, _ => rw [w_ne (by omega), w_ne (by omega), w_ne (by omega), w_eq]; rfl
      | 2, _ => rw [w_ne (by omega), w_ne (by omega), w_eq]; rfl
      | 3, _ => rw [w_ne (by omega), w_eq]; rfl
      | p + 4, hp => exact absurd hp (by omega)
    · rw [hGF _ _ _ (by omega), ← hF]
      match q, hq with
      | 0, _ => rw [w_ne (by omega), w_ne (by omega), w_ne (by omega), w_ne (by omega), w_ne (by omega), w_ne (by omega), w_ne (by omega), w_ne (by omega), hE1 _ (by omega), q_m1]; rfl
      | 1, _ => rw [w_ne (by omega), w_ne (by omega), w_ne (by omega), w_ne (by omega), w_ne (by omega), w_ne (by omega), w_ne (by omega), w_ne (by omega), hE1 _ (by omega), q_m1]; rfl
      | 2, _ => rw [w_ne (by omega), w_ne (by omega), w_ne (by omega), w_ne (by omega), w_ne (by omega), w_ne (by omega), w_ne (by omega), w_eq]; rfl
      | 3, _ => rw [w_ne (by omega), w_ne (by omega), w_ne (by omega), w_ne (by omega), w_ne (by omega), w_eq]; rfl
      | 4, _ => rw [w_ne (by omega), w_ne (by omega), w_ne (by omega), w_ne (by omega), w_ne (by omega), w_ne (by omega), w_ne (by omega), w_ne (by omega), hE1 _ (by omega), q_m1]; rfl
      | 5, _ => rw [w_ne (by omega), w_ne (by omega), w_ne (by omega), w_ne (by omega), w_ne (by omega), w_ne (by omega), w_ne (by omega), w_ne (by omega), hE1 _ (by omega), q_m1]; rfl
      | 6, _ => rw [w_ne (by omega), w_ne (by omega), w_ne (by omega), w_eq]; rfl
      | 7, _ => rw [w_ne (by omega), w_eq]; rfl
      | 8, _ => rw [w_ne (by omega), w_ne (by omega), w_ne (by omega), w_ne (by omega), w_ne (by omega), w_ne (by omega), w_eq]; rfl
      | 9, _ => rw [w_ne (by omega), w_ne (by omega), w_eq]; rfl
      | 10, _ => rw [w_ne (by omega), w_ne (by omega), w_ne (by omega), w_ne (by omega), w_ne (by omega), w_ne (by omega), w_ne (by omega), w_ne (by omega), hE1 _ (by omega), q_m1]; rfl
      | 11, _ => rw [w_ne (by omega), w_ne (by omega), w_ne (by omega), w_ne (by omega), w_ne (by omega), w_ne (by omega), w_ne (by omega), w_ne (by omega), hE1 _ (by omega), q_m1]; rfl
      | 12, _ => rw [w_ne (by omega), w_ne (by omega), w_ne (by omega), w_ne (by omega), w_eq]; rfl
      | 13, _ => rw [w_eq]; rfl
      | 14, _ => rw [w_ne (by omega), w_ne (by omega), w_ne (by omega), w_ne (by omega), w_ne (by omega), w_ne (by omega), w_ne (by omega), w_ne (by omega), hE1 _ (by omega), q_m1]; rfl
      | 15, _ => rw [w_ne (by omega), w_ne (by omega), w_ne (by omega), w_ne (by omega), w_ne (by omega), w_ne (by omega), w_ne (by omega), w_ne (by omega), hE1 _ (by omega), q_m1]; rfl
      | q + 16, hq => exact absurd hq (by omega)
    · rw [hGF _ _ _ (by omega), hFE _ _ _ (by omega), hE2 _ _ _ (by omega), hD1 m hm]; rfl
  obtain ⟨S', hmp, hfp, hsj, hpl⟩ := s_makePlan (fu := fu) hfu hSJ (okJ0 hcy)
  have hG4 : ∀ i, G.1 4 k i = (wI (wI (wI A 4 k 1 10) 4 k 2 20) 4 k 3 0).1 4 k i := fun i => by
    rw [hGF _ _ _ (by omega), hFE _ _ _ (by omega), hE2 _ _ _ (by omega), hD2 _ _ _ (by omega), hB2 _ _ _ (by omega)]
  refine ⟨S', by rw [hmp, b2s], ⟨hsj, hpl, ?_, ?_, ?_, ?_, ?_, ?_, ?_, fun r hr => ?_⟩, fun a b i hq => ?_, ?_⟩
  · rw [hfp.1 _ _ _ (by omega), hGA 9 (by omega), ← hA, w_ne (by omega), w_ne (by omega), w_ne (by omega), w_ne (by omega), w_ne (by omega), w_ne (by omega), w_eq]; rfl
  · rw [hfp.1 _ _ _ (by omega), hGA 11 (by omega), ← hA, w_ne (by omega), w_ne (by omega), w_ne (by omega), w_ne (by omega), w_ne (by omega), w_eq]; rfl
  · rw [hfp.1 _ _ _ (by omega), hGA 12 (by omega), ← hA, w_ne (by omega), w_ne (by omega), w_ne (by omega), w_ne (by omega), w_eq]; rfl
  · rw [hfp.1 _ _ _ (by omega), hGA 13 (by omega), ← hA, w_ne (by omega), w_ne (by omega), w_ne (by omega), w_eq]; rfl
  · rw [hfp.1 _ _ _ (by omega), hG4, w_ne (by omega), w_ne (by omega), w_eq]; rfl
  · rw [hfp.1 _ _ _ (by omega), hG4, w_ne (by omega), w_eq]; rfl
  · rw [hfp.1 _ _ _ (by omega), hG4, w_eq]; rfl
  · rw [hfp.1 _ _ _ (by omega), hGF _ _ _ (by omega), hFE _ _ _ (by omega), hE2 _ _ _ (by omega), hD2 _ _ _ (by omega), hB1 r hr]; rfl
  · rw [hfp.1 _ _ _ (by omega)]
    rw [← hG, w_ne (by omega), w_ne (by omega), w_ne (by omega), w_ne (by omega), w_ne (by omega), ← hF, w_ne (by omega), w_ne (by omega), w_ne (by omega), w_ne (by omega), w_ne (by omega), w_ne (by omega), w_ne (by omega), w_ne (by omega), hE2 _ _ _ (by omega), hD2 _ _ _ (by omega), hB2 _ _ _ (by omega), w_ne (by omega), w_ne (by omega), w_ne (by omega), ← hA, w_ne (by omega), w_ne (by omega), w_ne (by omega), w_ne (by omega), w_ne (by omega), w_ne (by omega), w_ne (by omega), w_ne (by omega)]
  · rw [hfp.2, ← hG, ← hF]
    show E.2 = S.2
    rw [hE3, hD3, hB3, ← hA]
    rfl
theorem s_reset12 {fu jn : Nat} {cy : Int} {x1 : Int32} (hfu : 100 ≤ fu) (hj : jn ≤ 5) (hcy : 30 ≤ cy ∧ cy ≤ 90) : ∀ (d k n : Nat) (S : Mem), k + d = jn → d < n → S.1 1 0 1 = i32 (jn : Int) → (∀ k', k' < k → J0 S k' cy) → ∃ S' : Mem, f_X1_reset_12 fu x1 (i32 cy) n (i32 (k : Int)) S = some ((), S') ∧ (∀ k', k' < jn → J0 S' k' cy) ∧ (∀ a b i, (a ≠ 3 ∧ a ≠ 4 ∧ (a < 11 ∨ 17 < a)) → S'.1 a b i = S.1 a b i) ∧ S'.2 = S.2 := by
  intro d
  induction d with
  | zero =>
    intro k n S hk hn h1 hJ
    obtain ⟨n, rfl⟩ : ∃ n', n = n' + 1 := ⟨n - 1, by omega⟩
    refine ⟨S, ?_, fun k' hk' => hJ k' (by omega), fun _ _ _ _ => rfl, rfl⟩
    rw [f_X1_reset_12, h1, leT (by omega) (by omega) (by omega)]
  | succ d ih =>
    intro k n S hk hn h1 hJ
    obtain ⟨n, rfl⟩ : ∃ n', n = n' + 1 := ⟨n - 1, by omega⟩
    obtain ⟨T, eT, hT1, hT2, hT3⟩ := s_reset3 (fu := fu) (k := k) (S := S) hfu hcy
    obtain ⟨S', e1, e2, e3, e4⟩ := ih (k + 1) n T (by omega) (by omega) ((hT2 _ _ _ (by omega)).trans h1) (fun k' hk' => by
      by_cases e : k' = k
      · subst e; exact hT1
      · exact (hJ k' (by omega)).far (fun a b i hb => hT2 a b i (Or.inl hb)) e)
    refine ⟨S', ?_, e2, fun a b i hq => (e3 a b i hq).trans (hT2 a b i (Or.inr hq)), e4.trans hT3⟩
    have hat : f_X1_at fu (i32 (k : Int)) S = some k := s_at' (C := (jn, 0, fun _ _ => 0, fun _ _ => 0, fun _ _ => 0, fun _ => 0, fun _ => 0, fun _ => 0)) hj h1 (show k < jn by omega)
    rw [f_X1_reset_12, h1, leF (by omega) (by omega) (by omega), hat, b1s, eT, b2s, q_1, q_add]
    exact e1
theorem s_reset {fu jn : Nat} {cy : Int} {S : Mem} (hfu : 100 ≤ fu) (hj : jn ≤ 5) (hcy : 30 ≤ cy ∧ cy ≤ 90) : ∃ S' : Mem, f_X1_reset fu (i32 (jn : Int)) (i32 cy) S = some ((), S') ∧ (∀ k', k' < jn → J0 S' k' cy) ∧ S'.1 1 0 1 = i32 (jn : Int) ∧ S'.1 1 0 2 = i32 cy ∧ ∀ i, S'.1 6 0 i = S.1 6 0 i := by
  obtain ⟨S', e1, e2, e3, e4⟩ := s_reset12 (x1 := i32 (jn : Int)) hfu hj hcy jn 0 fu (wI (wI S 1 0 1 (i32 (jn : Int))) 1 0 2 (i32 cy)) (by omega) (by omega) (by rw [w_ne (by omega), w_eq]) (fun k' hk' => absurd hk' (by omega))
  refine ⟨S', e1, e2, ?_, ?_, fun i => ?_⟩
  · rw [e3 _ _ _ (by omega), w_ne (by omega), w_eq]
  · rw [e3 _ _ _ (by omega), w_eq]
  · rw [e3 _ _ _ (by omega), w_ne (by omega), w_ne (by omega)]
