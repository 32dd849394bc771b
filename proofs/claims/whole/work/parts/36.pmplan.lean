/-! The model's plan, laid. -/
section MP2
variable {fu k : Nat} {s : Nat → Nat} {c f : Nat → Int} {cy : Int}
theorem tdiv_b {a b : Int} {B : Int} (h1 : -B ≤ a) (h2 : a ≤ B) : -B ≤ a.tdiv b ∧ a.tdiv b ≤ B := by
  have hb := Int.natAbs_tdiv a b
  have h5 : (a.tdiv b).natAbs ≤ a.natAbs := by rw [hb]; exact Nat.div_le_self _ _
  omega
theorem lw_b (ho : okJ s c f cy) (p : Nat) : -162000 ≤ lef s c cy * wgt s f p ∧ lef s c cy * wgt s f p ≤ 162000 := by
  have hl := lef_b ho
  have hwp := wgt_nn s f p
  have hwl := wgt_le (s := s) (fun q hq => (ho.2.2.1 q hq).2) p
  have h1 : (lef s c cy * wgt s f p).natAbs = (lef s c cy).natAbs * (wgt s f p).natAbs := Int.natAbs_mul _ _
  have h2 : (lef s c cy).natAbs * (wgt s f p).natAbs ≤ 90 * 1800 := Nat.mul_le_mul (by omega) (by omega)
  omega
theorem shr_w (ho : okJ s c f cy) (p : Nat) : -162000 ≤ shr s c f cy p ∧ shr s c f cy p ≤ 162000 := by
  have hl := lef_b ho
  unfold shr
  split
  · exact tdiv_b (by omega) (by omega)
  · exact tdiv_b (lw_b ho p).1 (lw_b ho p).2
theorem sshr_w (ho : okJ s c f cy) {p : Nat} (hp : p ≤ 4) : -648000 ≤ sms (shr s c f cy) p ∧ sms (shr s c f cy) p ≤ 648000 := by
  have h := sms_b p (shr_w (f := f) ho)
  omega
theorem rst_w (ho : okJ s c f cy) : -700000 ≤ rst s c f cy ∧ rst s c f cy ≤ 700000 := by
  have hl := lef_b ho
  have := sshr_w (f := f) ho (mny_le s).2
  unfold rst
  omega
/-- the plan that the model lays -/
def PM (S : Mem) (k : Nat) (s : Nat → Nat) (c f : Nat → Int) (cy : Int) : Prop := S.1 29 0 k = (if lef s c cy < 0 then 0 else 1) ∧ ∀ p, p < mny s → S.1 28 0 (4 * k + p) = i32 (clr s c p) ∧ S.1 27 0 (4 * k + p) = i32 (grn s c f cy p)
theorem PM.fr {S S' : Mem} {k' : Nat} (h : PM S k s c f cy) (hf : frM k' S S') (hk : k ≠ k') : PM S' k s c f cy := by
  have hm := mny_le s
  exact ⟨(hf.1 _ _ _ (by omega)).trans h.1, fun p hp => ⟨(hf.1 _ _ _ (by omega)).trans (h.2 p hp).1, (hf.1 _ _ _ (by omega)).trans (h.2 p hp).2⟩⟩
theorem m_p174 (ho : okJ s c f cy) : ∀ (d p n : Nat) (S : Mem), p + d = mny s → d < n → SM S k s c f cy → (∀ q, q < mny s → S.1 27 0 (4 * k + q) = i32 (G1 s c f cy q + (if q < p ∧ (q : Int) < rst s c f cy then 1 else 0))) →
    ∃ S' : Mem, frM k S S' ∧ (∀ a i, a ≠ 27 → S'.1 a 0 i = S.1 a 0 i) ∧ (∀ q, q < mny s → S'.1 27 0 (4 * k + q) = i32 (grn s c f cy q)) ∧ f_X8_plans_174 fu (i32 (k : Int)) n (i32 (rst s c f cy)) (i32 (p : Int)) S = some ((), S') := by
  intro d
  have hm := mny_le s
  have hr := rst_w (f := f) ho
  induction d with
  | zero =>
    intro p n S hp hn h h27
    have hk := h.1
    obtain ⟨n, rfl⟩ : ∃ n', n = n' + 1 := ⟨n - 1, by omega⟩
    refine ⟨S, frM.rf, fun _ _ _ => rfl, fun q hq => ?_, ?_⟩
    · rw [h27 q hq]
      unfold grn G1
      by_cases e : (q : Int) < rst s c f cy
      · rw [if_pos ⟨by omega, e⟩, if_pos e]
      · rw [if_neg (fun z => e z.2), if_neg e]
    · rw [f_X8_plans_174, gdt (q_inb (by omega) (by omega) (by omega)), q_nat (a := (k : Int)) (by omega) (by omega), show ((k : Int)).toNat = k by omega, h.2.1, leT (by omega) (by omega) (by omega)]
  | succ d ih =>
    intro p n S hp hn h h27
    have hk := h.1
    obtain ⟨n, rfl⟩ : ∃ n', n = n' + 1 := ⟨n - 1, by omega⟩
    have hsw := shr_w (f := f) ho p
    have hl := lst_b s p
    obtain ⟨S', hf, ho', hg, he⟩ := ih (p + 1) n (wI S 27 0 (4 * k + p) (i32 (G1 s c f cy p + (if (p : Int) < rst s c f cy then 1 else 0)))) (by omega) (by omega) (h.fr (frM.w (k := k) (by omega))) (fun q hq => by
      rw [w_ok]
      by_cases e1 : q = p
      · subst e1
        rw [if_pos ⟨rfl, rfl, rfl⟩]
        by_cases e2 : (q : Int) < rst s c f cy
        · rw [if_pos e2, if_pos ⟨by omega, e2⟩]
        · rw [if_neg e2, if_neg (fun z => e2 z.2)]
      · rw [if_neg (by omega), h27 q hq]
        by_cases e2 : q < p ∧ (q : Int) < rst s c f cy
        · rw [if_pos e2, if_pos ⟨by omega, e2.2⟩]
        · rw [if_neg e2, if_neg (fun z => e2 ⟨by omega, z.2⟩)])
    refine ⟨S', (frM.w (by omega)).trans hf, fun a i ha => (ho' a i ha).trans (w_ne (by omega)), hg, ?_⟩
    have e209 : ∀ v : Int, v = (if (p : Int) < rst s c f cy then 1 else 0) → f_X8_plans_209 fu (f_X8_plans_174 fu (i32 (k : Int)) n) (i32 (k : Int)) (i32 (rst s c f cy)) (i32 (p : Int)) (i32 v) (i32 (G1 s c f cy p)) (i32 (4 * (k : Int) + (p : Int))) S = some ((), S') := by
      intro v hv
      unfold f_X8_plans_209
      rw [gdt (q_inb (by omega) (by omega) (by omega)), q_nat (by omega) (by omega), show (4 * (k : Int) + (p : Int)).toNat = 4 * k + p by omega, q_add, hv, q_1, q_add]
      exact he
    have h27p : S.1 27 0 (4 * k + p) = i32 (G1 s c f cy p) := by rw [h27 p (by omega), if_neg (by omega), Int.add_zero]
    rw [f_X8_plans_174, gdt (q_inb (by omega) (by omega) (by omega)), q_nat (a := (k : Int)) (by omega) (by omega), show ((k : Int)).toNat = k by omega, h.2.1, leF (by omega) (by omega) (by omega), q_4, q_mul, q_add, gdt (q_inb (by omega) (by omega) (by omega)), q_nat (by omega) (by omega), show (4 * (k : Int) + (p : Int)).toNat = 4 * k + p by omega, h27p]
    by_cases e : (p : Int) < rst s c f cy
    · rw [leF e (by omega) (by omega), q_1]
      exact e209 1 (by rw [if_pos e])
    · rw [leT (by omega) (by omega) (by omega), q_0]
      exact e209 0 (by rw [if_neg e])
theorem m_p98 (hfu : 20 ≤ fu) (ho : okJ s c f cy) : ∀ (d p n : Nat) (S : Mem), p + d = mny s → d < n → SM S k s c f cy → (∀ q, q < p → S.1 27 0 (4 * k + q) = i32 (G1 s c f cy q)) →
    ∃ S' : Mem, frM k S S' ∧ (∀ a i, a ≠ 27 → S'.1 a 0 i = S.1 a 0 i) ∧ (∀ q, q < mny s → S'.1 27 0 (4 * k + q) = i32 (grn s c f cy q)) ∧ f_X8_plans_98 fu (i32 (k : Int)) n (i32 (lef s c cy)) (i32 (wts s f)) (i32 (lef s c cy - sms (shr s c f cy) p)) (i32 (p : Int)) S = some ((), S') := by
  intro d
  have hm := mny_le s
  have hr := rst_w (f := f) ho
  have hw := wts_b (f := f) ho
  have hl := lef_b ho
  induction d with
  | zero =>
    intro p n S hp hn h h27
    have hk := h.1
    obtain ⟨n, rfl⟩ : ∃ n', n = n' + 1 := ⟨n - 1, by omega⟩
    have hpm : p = mny s := by omega
    subst hpm
    obtain ⟨S', hf, ho', hg, he⟩ := m_p174 (fu := fu) (k := k) (f := f) ho (mny s) 0 fu S (by omega) (by omega) h (fun q hq => by rw [h27 q hq, if_neg (by omega), Int.add_zero])
    refine ⟨S', hf, ho', hg, ?_⟩
    rw [f_X8_plans_98, gdt (q_inb (by omega) (by omega) (by omega)), q_nat (a := (k : Int)) (by omega) (by omega), show ((k : Int)).toNat = k by omega, h.2.1, leT (by omega) (by omega) (by omega), q_0]
    exact he
  | succ d ih =>
    intro p n S hp hn h h27
    have hk := h.1
    obtain ⟨n, rfl⟩ : ∃ n', n = n' + 1 := ⟨n - 1, by omega⟩
    have hs := sshr_w (f := f) ho (p := p) (by omega)
    have hsw := shr_w (f := f) ho p
    have hls := lst_b s p
    obtain ⟨S', hf, ho', hg, he⟩ := ih (p + 1) n (wI S 27 0 (4 * k + p) (i32 (G1 s c f cy p))) (by omega) (by omega) (h.fr (frM.w (k := k) (by omega))) (fun q hq => by
      rw [w_ok]
      by_cases e1 : q = p
      · subst e1; rw [if_pos ⟨rfl, rfl, rfl⟩]
      · rw [if_neg (by omega)]; exact h27 q (by omega))
    refine ⟨S', (frM.w (by omega)).trans hf, fun a i ha => (ho' a i ha).trans (w_ne (by omega)), hg, ?_⟩
    have e135 : ∀ K, f_X8_plans_135 fu K (i32 (k : Int)) (i32 (lef s c cy)) (i32 (wts s f)) (i32 (lef s c cy - sms (shr s c f cy) p)) (i32 (p : Int)) (i32 (shr s c f cy p)) S = K (i32 (lef s c cy)) (i32 (wts s f)) (i32 (lef s c cy - sms (shr s c f cy) (p + 1))) (i32 ((p + 1 : Nat) : Int)) (wI S 27 0 (4 * k + p) (i32 (G1 s c f cy p))) := by
      intro K
      unfold f_X8_plans_135
      rw [m_leastOf h ho (by omega), b1s, q_4, q_mul, q_add, gdt (q_inb (by omega) (by omega) (by omega)), q_nat (by omega) (by omega), show (4 * (k : Int) + (p : Int)).toNat = 4 * k + p by omega, q_add, q_sub, q_1, q_add]
      have e2 : lef s c cy - sms (shr s c f cy) p - shr s c f cy p = lef s c cy - sms (shr s c f cy) (p + 1) := by
        show _ = lef s c cy - (sms (shr s c f cy) p + shr s c f cy p); omega
      rw [e2]
      rfl
    rw [← he, f_X8_plans_98, gdt (q_inb (by omega) (by omega) (by omega)), q_nat (a := (k : Int)) (by omega) (by omega), show ((k : Int)).toNat = k by omega, h.2.1, leF (by omega) (by omega) (by omega)]
    by_cases e : wts s f = 0
    · rw [if_pos (show i32 (wts s f) = 0 by rw [e]; rfl), gdt (q_inb (by omega) (by omega) (by omega)), gdt (m_ne (by omega) (by omega)), q_div (by omega) (by omega) (by omega) (by omega)]
      have e3 : (lef s c cy).tdiv (mny s : Int) = shr s c f cy p := by unfold shr; rw [if_pos e]
      rw [e3, e135]
    · have hmul := lw_b (f := f) ho p
      rw [if_neg (fun z => e ((q_eq (by omega) (by omega) (by omega) (by omega)).mp (z.trans q_0))), m_weight (by omega) h ho (by omega), b1s, gdt (m_ne (by omega) (by omega)), q_mul, q_div (by omega) (by omega) (by omega) (by omega)]
      have e3 : (lef s c cy * wgt s f p).tdiv (wts s f) = shr s c f cy p := by unfold shr; rw [if_neg e]
      rw [e3, e135]
theorem m_p10 (hfu : 20 ≤ fu) (ho : okJ s c f cy) : ∀ (d p n : Nat) (S : Mem), p + d = mny s → d < n → SM S k s c f cy → (∀ q, q < p → S.1 28 0 (4 * k + q) = i32 (clr s c q)) →
    ∃ S' : Mem, frM k S S' ∧ PM S' k s c f cy ∧ f_X8_plans_10 fu (i32 (k : Int)) n (i32 (cy - sms (fun p => clr s c p + lst s p) p)) (i32 (sms (wgt s f) p)) (i32 (p : Int)) S = some ((), S') := by
  intro d
  have hm := mny_le s
  have hl := lef_b ho
  induction d with
  | zero =>
    intro p n S hp hn h h28
    have hk := h.1
    obtain ⟨n, rfl⟩ : ∃ n', n = n' + 1 := ⟨n - 1, by omega⟩
    have hpm : p = mny s := by omega
    subst hpm
    have e0 : ∀ v : Int32, nb v = v → v = (if lef s c cy < 0 then 0 else 1) → ∃ S' : Mem, frM k S S' ∧ PM S' k s c f cy ∧ f_X8_plans_91 fu (i32 (k : Int)) (i32 (lef s c cy)) (i32 (wts s f)) v (i32 (k : Int)) S = some ((), S') := by
      intro v hv hv2
      obtain ⟨S', hf, ho', hg, he⟩ := m_p98 (fu := fu) (k := k) (f := f) hfu ho (mny s) 0 fu (wI S 29 0 k v) (by omega) (by omega) (h.fr (frM.w (k := k) (by omega))) (fun q hq => absurd hq (by omega))
      refine ⟨S', (frM.w (by omega)).trans hf, ⟨?_, fun q hq => ⟨?_, hg q hq⟩⟩, ?_⟩
      · rw [ho' 29 k (by omega), w_eq, hv2]
      · rw [ho' 28 _ (by omega), w_ne (by omega)]
        exact h28 q hq
      · unfold f_X8_plans_91
        rw [gdt (q_inb (by omega) (by omega) (by omega)), q_nat (a := (k : Int)) (by omega) (by omega), show ((k : Int)).toNat = k by omega, hv, q_0]
        have e6 : lef s c cy - sms (shr s c f cy) 0 = lef s c cy := Int.sub_zero _
        rw [e6] at he
        exact he
    have e1 : f_X8_plans_10 fu (i32 (k : Int)) (n + 1) (i32 (cy - sms (fun p => clr s c p + lst s p) (mny s))) (i32 (sms (wgt s f) (mny s))) (i32 (mny s : Int)) S = (if i32 (lef s c cy) < 0 then f_X8_plans_91 fu (i32 (k : Int)) (i32 (lef s c cy)) (i32 (wts s f)) 0 (i32 (k : Int)) S else f_X8_plans_91 fu (i32 (k : Int)) (i32 (lef s c cy)) (i32 (wts s f)) 1 (i32 (k : Int)) S) := by
      rw [f_X8_plans_10, gdt (q_inb (by omega) (by omega) (by omega)), q_nat (a := (k : Int)) (by omega) (by omega), show ((k : Int)).toNat = k by omega, h.2.1, leT (by omega) (by omega) (by omega)]
      rfl
    rw [e1]
    by_cases e : lef s c cy < 0
    · rw [if_pos (show i32 (lef s c cy) < 0 by rw [q_0]; exact (q_lt (by omega) (by omega) (by omega) (by omega)).mpr e)]
      exact e0 0 nb_0 (by rw [if_pos e])
    · rw [if_neg (fun z => e ((q_lt (by omega) (by omega) (by omega) (by omega)).mp (by rw [q_0] at z; exact z)))]
      exact e0 1 nb_1 (by rw [if_neg e])
  | succ d ih =>
    intro p n S hp hn h h28
    have hk := h.1
    obtain ⟨n, rfl⟩ : ∃ n', n = n' + 1 := ⟨n - 1, by omega⟩
    have h' : SM (wI S 28 0 (4 * k + p) (i32 (clr s c p))) k s c f cy := h.fr (frM.w (k := k) (by omega))
    obtain ⟨S', hf, hpm, he⟩ := ih (p + 1) n (wI S 28 0 (4 * k + p) (i32 (clr s c p))) (by omega) (by omega) h' (fun q hq => by
      rw [w_ok]
      by_cases e : q = p
      · subst e; rw [if_pos ⟨rfl, rfl, rfl⟩]
      · rw [if_neg (by omega)]; exact h28 q (by omega))
    refine ⟨S', (frM.w (by omega)).trans hf, hpm, ?_⟩
    rw [← he, f_X8_plans_10, gdt (q_inb (by omega) (by omega) (by omega)), q_nat (a := (k : Int)) (by omega) (by omega), show ((k : Int)).toNat = k by omega, h.2.1, leF (by omega) (by omega) (by omega), m_clearingOf hfu h ho (by omega), b1s, q_4, q_mul, q_add, gdt (q_inb (by omega) (by omega) (by omega)), gdt (q_inb (by omega) (by omega) (by omega)), q_nat (by omega) (by omega), show (4 * (k : Int) + (p : Int)).toNat = 4 * k + p by omega, m_leastOf h' ho (by omega), b1s, m_weight (by omega) h' ho (by omega), b1s, w_eq, q_add, q_sub, q_add, q_1, q_add]
    have e2 : cy - sms (fun p => clr s c p + lst s p) p - (clr s c p + lst s p) = cy - sms (fun p => clr s c p + lst s p) (p + 1) := by
      show _ = cy - (sms (fun p => clr s c p + lst s p) p + (clr s c p + lst s p)); omega
    rw [e2]
    rfl
theorem m_plans {S : Mem} (hfu : 20 ≤ fu) (h : SM S k s c f cy) (ho : okJ s c f cy) : ∃ S' : Mem, f_X8_plans fu (i32 (k : Int)) S = some ((), S') ∧ frM k S S' ∧ SM S' k s c f cy ∧ PM S' k s c f cy := by
  have hm := mny_le s
  obtain ⟨S', hf, hp, he⟩ := m_p10 (fu := fu) (k := k) (f := f) hfu ho (mny s) 0 fu S (by omega) (by omega) h (fun q hq => absurd hq (by omega))
  refine ⟨S', ?_, hf, h.fr hf, hp⟩
  unfold f_X8_plans
  rw [h.2.2.1, q_0]
  have e1 : cy - sms (fun p => clr s c p + lst s p) 0 = cy := Int.sub_zero cy
  rw [e1] at he
  exact he
end MP2
