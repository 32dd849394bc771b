/-! the model's bands. -/
def MB (S : Mem) (C : Cf) (O : Nat → Int) : Prop := okC C ∧ (∀ k, k < cJ C → 0 ≤ lef (cS C k) (cC C k) (cCy C)) ∧ S.1 8 0 1 = i32 (cJ C : Int) ∧ S.1 8 0 2 = i32 (cCy C) ∧ (∀ k, k < cJ C → SM S k (cS C k) (cC C k) (cF C k) (cCy C) ∧ PM S k (cS C k) (cC C k) (cF C k) (cCy C) ∧ S.1 24 0 k = i32 (O k) ∧ 0 ≤ O k ∧ O k < cCy C) ∧ ∀ k, k + 1 < cJ C → S.1 25 0 k = i32 (cLs C k)
theorem al_cg {h g : Nat → Bool} : ∀ d k, (∀ j, k ≤ j → j < k + d → h j = g j) → al h d k = al g d k
  | 0, _, _ => rfl
  | d + 1, k, e => by rw [al, al, e k (by omega) (by omega), al_cg d (k + 1) (fun j h1 h2 => e j (by omega) (by omega))]
theorem al_rev (h : Nat → Bool) (J : Nat) : al (fun i => h (J - 1 - i)) J 0 = al h J 0 := by
  rw [Bool.eq_iff_iff, al_iff, al_iff]
  constructor
  · intro g j h1 h2
    have := g (J - 1 - j) (by omega) (by omega)
    rw [show J - 1 - (J - 1 - j) = j by omega] at this
    exact this
  · intro g j h1 h2
    exact g (J - 1 - j) (by omega) (by omega)
theorem aF_m (C : Cf) (O : Nat → Int) (t : Nat) : al (fun j => gF C j (O j) t) (cJ C) 0 = aF C O (-1) t := al_cg _ _ (fun j _ _ => by rw [decide_eq_false (by omega), Bool.false_or])
theorem aB_m (C : Cf) (O : Nat → Int) (t : Nat) : al (fun j => gB C j (O j) t) (cJ C) 0 = aB C O (-1) t := al_cg _ _ (fun j _ _ => by rw [decide_eq_false (by omega), Bool.false_or])
section BD
variable {fu : Nat} {S : Mem} {C : Cf} {O : Nat → Int}
theorem m_frF {t : Nat} {x1 : Int32} (hfu : 100 ≤ fu) (hB : MB S C O) (ht : t < 200) : ∀ (d k m : Nat) (x3 : Int32), k + d = cJ C → d < m → (d ≠ 0 → x3 = i32 ((t : Int) + sml (cLs C) k 0)) → f_X8_isFree_5 fu x1 1 S m x3 (i32 (k : Int)) = some (bo (al (fun j => gF C j (O j) t) d k)) := by
  intro d
  obtain ⟨h1, h0, b1', b2', b3, b4⟩ := hB
  have hj : 2 ≤ cJ C ∧ cJ C ≤ 5 := ⟨h1.1, h1.2.1⟩
  induction d with
  | zero =>
    intro k m x3 hk hm _
    obtain ⟨m, rfl⟩ : ∃ m', m = m' + 1 := ⟨m - 1, by omega⟩
    rw [f_X8_isFree_5, b1', leT (by omega) (by omega) (by omega), nb_1]
    rfl
  | succ d ih =>
    intro k m x3 hk hm hx
    obtain ⟨m, rfl⟩ : ∃ m', m = m' + 1 := ⟨m - 1, by omega⟩
    have e3 : i32 (k : Int) + 1 = i32 ((k + 1 : Nat) : Int) := by rw [q_1, q_add]; rfl
    have hs := sml_b h1 k 0 (by omega)
    obtain ⟨g1, g2, g3, g4, g5⟩ := b3 k (by omega)
    have gr : f_X8_isGreenAt fu (i32 (k : Int)) 0 (i32 ((t : Int) + sml (cLs C) k 0)) 0 S = some (bo (gF C k (O k) t)) := m_green0 (m := 0) (by omega) (h1.2.2.2.2.1 k (by omega)).1 (h0 k (by omega)) g1 g2 g3 ⟨g4, g5⟩ (by omega) (by omega)
    rw [f_X8_isFree_5, b1', leF (by omega) (by omega) (by omega), if_neg (by decide +kernel), hx (by omega)]
    unfold f_X8_isFree_32 f_X8_isFree_46 f_X8_isFree_82 f_X8_isFree_103 f_X8_isFree_104
    rw [if_neg (by decide +kernel), gr, b1s, al]
    cases gF C k (O k) t with
    | false => rw [boF rfl, nb_0, Bool.false_and]; rfl
    | true =>
      rw [boT rfl, Bool.true_and, if_neg (by decide +kernel), b1', q_1, q_sub]
      by_cases e : k + 1 = cJ C
      · rw [leT (by omega) (by omega) (by omega), if_neg (by decide +kernel), ← q_1, e3]
        exact ih (k + 1) m _ (by omega) (by omega) (fun z => absurd hk (by omega))
      · rw [leF (by omega) (by omega) (by omega), ← q_1, e3, gdt (q_inb (by omega) (by omega) (by omega)), q_nat (by omega) (by omega), show ((k : Int)).toNat = k by omega, b4 k (by omega), q_add]
        refine ih (k + 1) m _ (by omega) (by omega) (fun _ => ?_)
        rw [sml_end, Nat.zero_add]
        congr 1
        omega
theorem m_frB {t : Nat} {x1 : Int32} (hfu : 100 ≤ fu) (hB : MB S C O) (ht : t < 200) : ∀ (d i m : Nat) (x3 : Int32), i + d = cJ C → d < m → (d ≠ 0 → x3 = i32 ((t : Int) + sml (cLs C) i (cJ C - 1 - i))) → f_X8_isFree_5 fu x1 0 S m x3 (i32 (i : Int)) = some (bo (al (fun j => gB C (cJ C - 1 - j) (O (cJ C - 1 - j)) t) d i)) := by
  intro d
  obtain ⟨h1, h0, b1', b2', b3, b4⟩ := hB
  have hj : 2 ≤ cJ C ∧ cJ C ≤ 5 := ⟨h1.1, h1.2.1⟩
  induction d with
  | zero =>
    intro k m x3 hk hm _
    obtain ⟨m, rfl⟩ : ∃ m', m = m' + 1 := ⟨m - 1, by omega⟩
    rw [f_X8_isFree_5, b1', leT (by omega) (by omega) (by omega), nb_1]
    rfl
  | succ d ih =>
    intro i m x3 hi hm hx
    obtain ⟨m, rfl⟩ : ∃ m', m = m' + 1 := ⟨m - 1, by omega⟩
    have e3 : i32 (i : Int) + 1 = i32 ((i + 1 : Nat) : Int) := by rw [q_1, q_add]; rfl
    generalize hk : cJ C - 1 - i = k at *
    have hs := sml_b h1 i k (by omega)
    obtain ⟨g1, g2, g3, g4, g5⟩ := b3 k (by omega)
    have eg : gB C k (O k) t = (lit (cS C k) (cC C k) (cF C k) (cCy C) (((t : Int) + sml (cLs C) i k - O k) % cCy C)).testBit 1 := by
      unfold gB
      rw [show cJ C - 1 - k = i by omega]
    have gr : f_X8_isGreenAt fu (i32 (k : Int)) 1 (i32 ((t : Int) + sml (cLs C) i k)) 0 S = some (bo (gB C k (O k) t)) := by
      rw [eg]
      exact m_green0 (m := 1) (by omega) (h1.2.2.2.2.1 k (by omega)).1 (h0 k (by omega)) g1 g2 g3 ⟨g4, g5⟩ (by omega) (by omega)
    have ek : S.1 8 0 1 - 1 - i32 (i : Int) = i32 (k : Int) := by
      rw [b1', q_1, q_sub, q_sub]; congr 1; omega
    rw [f_X8_isFree_5, if_pos rfl, ek, b1', leF (by omega) (by omega) (by omega), hx (by omega)]
    unfold f_X8_isFree_32 f_X8_isFree_46 f_X8_isFree_82 f_X8_isFree_103 f_X8_isFree_104
    rw [if_pos rfl, gr, b1s, al, hk]
    cases gB C k (O k) t with
    | false => rw [boF rfl, nb_0, Bool.false_and]; rfl
    | true =>
      rw [boT rfl, Bool.true_and, if_pos rfl, if_pos rfl, e3]
      by_cases e : k = 0
      · rw [q_0, leT (by omega) (by omega) (by omega)]
        exact ih (i + 1) m _ (by omega) (by omega) (fun z => absurd hi (by omega))
      · have ek1 : i32 (k : Int) - 1 = i32 ((k - 1 : Nat) : Int) := by rw [q_1, q_sub]; congr 1; omega
        rw [q_0, leF (by omega) (by omega) (by omega), ek1, gdt (q_inb (by omega) (by omega) (by omega)), q_nat (by omega) (by omega), show (((k - 1 : Nat)) : Int).toNat = k - 1 by omega, b4 (k - 1) (by omega), q_add]
        refine ih (i + 1) m _ (by omega) (by omega) (fun _ => ?_)
        rw [show cJ C - 1 - (i + 1) = k - 1 by omega, sml, show k - 1 + 1 = k by omega]
        congr 1
        omega
theorem m_free {t : Nat} (hfu : 100 ≤ fu) (hB : MB S C O) (ht : t < 200) : f_X8_isFree fu (i32 (t : Int)) 1 S = some (bo (aF C O (-1) t)) ∧ f_X8_isFree fu (i32 (t : Int)) 0 S = some (bo (aB C O (-1) t)) := by
  have hj : 2 ≤ cJ C ∧ cJ C ≤ 5 := ⟨hB.1.1, hB.1.2.1⟩
  constructor
  · rw [← aF_m]
    exact m_frF hfu hB ht (cJ C) 0 fu _ (by omega) (by omega) (fun _ => by rw [sml, Int.add_zero])
  · rw [← aB_m, ← al_rev (fun j => gB C j (O j) t)]
    exact m_frB hfu hB ht (cJ C) 0 fu _ (by omega) (by omega) (fun _ => by rw [sml, Int.add_zero])
theorem m_bo4 {n : Nat} {x1 : Int32} {g : Nat → Bool} (hn : cCy C = (n : Int)) (hB : MB S C O) (hg : ∀ t, t < n → f_X8_isFree fu (i32 (t : Int)) x1 S = some (bo (g t))) : ∀ (d t m : Nat) (acc : Int), t + d = n → d < m → f_X8_bandOf_4 fu x1 S m (i32 acc) (i32 (t : Int)) = some (i32 (acc + cntF g d t)) := by
  intro d
  obtain ⟨h1, h0, b1', b2', b3, b4⟩ := hB
  have hcy := h1.2.2
  induction d with
  | zero =>
    intro t m acc ht hm
    obtain ⟨m, rfl⟩ : ∃ m', m = m' + 1 := ⟨m - 1, by omega⟩
    rw [f_X8_bandOf_4, b2', hn, leT (by omega) (by omega) (by omega), show cntF g 0 t = 0 from rfl, Int.add_zero]
  | succ d ih =>
    intro t m acc ht hm
    obtain ⟨m, rfl⟩ : ∃ m', m = m' + 1 := ⟨m - 1, by omega⟩
    have e3 : i32 (t : Int) + 1 = i32 ((t + 1 : Nat) : Int) := by rw [q_1, q_add]; rfl
    rw [f_X8_bandOf_4, b2', hn, leF (by omega) (by omega) (by omega), hg t (by omega), b1s]
    unfold f_X8_bandOf_27
    rw [e3, cntF]
    cases g t with
    | false => rw [boF rfl, q_0, q_add, ih (t + 1) m _ (by omega) (by omega), if_neg (by simp), Int.add_zero, Int.zero_add]
    | true => rw [boT rfl, q_1, q_add, ih (t + 1) m _ (by omega) (by omega), if_pos rfl, Int.add_assoc]
theorem m_bandOf {n : Nat} (hfu : 100 ≤ fu) (hn : cCy C = (n : Int)) (hB : MB S C O) : f_X8_bandOf fu 1 S = some (i32 (cntF (aF C O (-1)) n 0)) ∧ f_X8_bandOf fu 0 S = some (i32 (cntF (aB C O (-1)) n 0)) := by
  have hcy := hB.1.2.2
  constructor
  · have := m_bo4 (fu := fu) (x1 := 1) hn hB (fun t ht => (m_free hfu hB (by omega)).1) n 0 fu 0 (by omega) (by omega)
    rw [Int.zero_add] at this
    exact this
  · have := m_bo4 (fu := fu) (x1 := 0) hn hB (fun t ht => (m_free hfu hB (by omega)).2) n 0 fu 0 (by omega) (by omega)
    rw [Int.zero_add] at this
    exact this
/-- both bands together -/
def bsum (C : Cf) (n : Nat) (O : Nat → Int) : Int := cntF (aF C O (-1)) n 0 + cntF (aB C O (-1)) n 0
theorem m_bands {n : Nat} (hfu : 100 ≤ fu) (hn : cCy C = (n : Int)) (hB : MB S C O) : f_X8_bands fu S = some (i32 (bsum C n O)) := by
  unfold f_X8_bands bsum
  rw [(m_bandOf hfu hn hB).1, b1s, (m_bandOf hfu hn hB).2, b1s, q_add]
theorem MB.of (h1 : okC C) (h0 : ∀ k, k < cJ C → 0 ≤ lef (cS C k) (cC C k) (cCy C)) (h3 : moC S C) (hp : PMA S C) : MB S C (cO C) := by
  refine ⟨h1, h0, h3.1, (h3.2.1 0 (by have := h1.1; omega)).1.2.2.1, fun k hk => ⟨(h3.2.1 k hk).1, hp k hk, (h3.2.1 k hk).2, (h1.2.2.2.2.1 k hk).2.1, (h1.2.2.2.2.1 k hk).2.2⟩, fun k hk => (h3.2.2 k hk).1⟩
theorem PMA.th {v : Int32} (h : PMA S C) : PMA (wI S 8 0 0 v) C := fun k hk => ⟨(w_ne (by omega)).trans (h k hk).1, fun p hq => ⟨(w_ne (by omega)).trans ((h k hk).2 p hq).1, (w_ne (by omega)).trans ((h k hk).2 p hq).2⟩⟩
end BD
theorem sim_band (fu : Nat) (hfu : 200 ≤ fu) : Sim_band fu RR := by
  intro S SR x h hx
  have h' := h
  obtain ⟨C, V, h1, h2, h3, h4, h5, h6⟩ := h'
  have hj : 2 ≤ cJ C ∧ cJ C ≤ 5 := ⟨h1.1, h1.2.1⟩
  have hcy := h1.2.2
  obtain ⟨n, hn⟩ : ∃ n : Nat, cCy C = (n : Int) := ⟨(cCy C).toNat, by omega⟩
  obtain ⟨S4, e4, f4, th4, pm4⟩ := m_all (fu := fu) (by omega) h1 h3
  unfold fx_X7_band f_X8_band f_X8_band_13 f_X8_band_28
  rw [s_checkPlans (by omega) h1 h2, e4, b2s]
  by_cases e5 : plA C (cJ C) 0 = true
  · have h0 : ∀ k, k < cJ C → 0 ≤ lef (cS C k) (cC C k) (cCy C) := fun k hk => plA_all (cJ C) 0 e5 k (by omega) (by omega)
    have hB := MB.of h1 h0 (h3.mf (f4.trans (moF.th (v := 0)))) pm4.th
    obtain ⟨S2, a1, a2, a3⟩ := s_common (fu := fu) (w := -1) hfu h1 h2 h0 hn (by omega)
    have hc := s_cntF2 (fu := fu) (by omega) a3
    have hm := m_bandOf (fu := fu) (by omega) hn hB
    rw [if_pos e5, bxr, boT e5, m_holds0, b2s, if_neg (by decide +kernel)]
    unfold f_X0_width f_X0_width_26
    rw [q_m1, a1, b2s]
    rcases hx with rfl | rfl
    · rw [if_pos rfl, hc.2, b1s, hm.2, b1s, b2s]
      exact ⟨_, _, _, _, 0, rfl, rfl, rfl, w_eq, (fun v hv => by cases hv; rfl), (h.mf (f4.trans moF.th)).cf a2⟩
    · rw [if_neg (by decide +kernel), hc.1, b1s, hm.1, b1s, b2s]
      exact ⟨_, _, _, _, 0, rfl, rfl, rfl, w_eq, (fun v hv => by cases hv; rfl), (h.mf (f4.trans moF.th)).cf a2⟩
  · have e5' : plA C (cJ C) 0 = false := by
      cases hz : plA C (cJ C) 0 with
      | false => rfl
      | true => exact absurd hz e5
    rw [if_neg e5, bxl, boF e5', m_holdsN (by decide +kernel), b2s, if_pos rfl]
    exact ⟨_, _, _, _, 1, rfl, rfl, rfl, w_eq, (fun v hv => by cases hv), h.mf (f4.trans moF.th)⟩
