/-! The class's plan: laid, shared out, drawn. -/
theorem sms_b {g : Nat → Int} {lo hi : Int} (n : Nat) (h : ∀ i, lo ≤ g i ∧ g i ≤ hi) : n * lo ≤ sms g n ∧ sms g n ≤ n * hi := ⟨sms_ge n (fun i _ => (h i).1), sms_le n (fun i _ => (h i).2)⟩
theorem w_ok {S : Mem} {c k j a b i : Nat} {v : Int32} : (wI S c k j v).1 a b i = if a = c ∧ b = k ∧ i = j then v else S.1 a b i := rfl
section MP
variable {fu k : Nat} {s : Nat → Nat} {c f : Nat → Int} {cy : Int}
theorem clst_b (ho : okJ s c f cy) (i : Nat) : (0 : Int) ≤ clr s c i + lst s i ∧ clr s c i + lst s i ≤ 17 := by
  have h1 := clr_nn s c i
  have h2 := clr_le (s := s) (fun q hq => (ho.2.1 q hq).2) i
  have h3 := lst_b s i
  omega
theorem lef_b (ho : okJ s c f cy) : -68 ≤ lef s c cy ∧ lef s c cy ≤ 90 := by
  have h := sms_b (mny s) (clst_b ho)
  have hm := mny_le s
  have := ho.2.2.2
  unfold lef
  have : (mny s : Int) * 17 ≤ 68 := by omega
  omega
theorem wts_b (ho : okJ s c f cy) : 0 ≤ wts s f ∧ wts s f ≤ 7200 := by
  have h := sms_b (g := wgt s f) (mny s) (fun i => ⟨wgt_nn s f i, wgt_le (fun q hq => (ho.2.2.1 q hq).2) i⟩)
  have hm := mny_le s
  unfold wts
  omega
theorem s_mp34 {K : Int32 → Int32 → Int32 → Mem → Option (Unit × Mem)} {S : Mem} (hfu : 8 ≤ fu) (h : SJ S k s c f cy) (ho : okJ s c f cy) {p : Nat} (hp : p < mny s) {x y : Int} : f_X3_makePlan_34 fu K k (i32 x) (i32 y) (i32 (p : Int)) (i32 (nxt (mny s) p : Int)) S = K (i32 (x - (clr s c p + lst s p))) (i32 (y + wgt s f p)) (i32 ((p : Int) + 1)) (wI S 15 k p (i32 (clr s c p))) := by
  have hm := mny_le s
  have hn := nxt_lt (m := mny s) (p := p) (by omega)
  unfold f_X3_makePlan_34
  rw [s_read (by omega) (by omega) (by omega), b1s, s_read (by omega) (by omega) (by omega), b1s]
  rw [show ((p : Int)).toNat = p by omega, show ((nxt (mny s) p : Int)).toNat = nxt (mny s) p by omega, h.2.2.1 p (by omega), h.2.2.1 _ (by omega)]
  rw [s_gc hfu (ho.1 p (by omega)) (ho.1 _ (by omega)) h.2.2.2.1 ho.2.1, b1s]
  have hg := gcf_b (a := s p) (b := s (nxt (mny s) p)) ho.2.1 16 (by omega)
  rw [q_0, q_jmax (by omega) (by omega) (by omega) (by omega), gcf_mxs, s_write (by omega) (by omega) (by omega), b2s]
  rw [show ((p : Int)).toNat = p by omega]
  have h' : SJ (wI S 15 k p (i32 (mxs (cl2 c (s p) (s (nxt (mny s) p))) 16))) k s c f cy := h.fr (frP.w (by omega))
  rw [s_leastGreen h' ho (by omega), b1s, s_weightOf hfu h' ho (by omega), b1s, q_add, q_sub, q_add, q_1, q_add]
  rfl
theorem s_mp9 (hfu : 8 ≤ fu) (ho : okJ s c f cy) : ∀ (d p n : Nat) (S : Mem), p + d = mny s → d < n → SJ S k s c f cy → (∀ p', p' < p → S.1 15 k p' = i32 (clr s c p')) →
    ∃ S' : Mem, frP k S S' ∧ (∀ p', p' < mny s → S'.1 15 k p' = i32 (clr s c p')) ∧ f_X3_makePlan_9 fu k n (i32 (cy - sms (fun p => clr s c p + lst s p) p)) (i32 (sms (wgt s f) p)) (i32 (p : Int)) S = f_X3_makePlan_108 fu k (i32 (lef s c cy)) (i32 (wts s f)) (if lef s c cy < 0 then 0 else 1) S' := by
  intro d
  have hm := mny_le s
  have hl := lef_b ho
  induction d with
  | zero =>
    intro p n S hp hn h h5
    obtain ⟨n, rfl⟩ : ∃ n', n = n' + 1 := ⟨n - 1, by omega⟩
    have : p = mny s := by omega
    subst this
    refine ⟨S, frP.rf, h5, ?_⟩
    rw [f_X3_makePlan_9, h.1, leT (by omega) (by omega) (by omega)]
    show (if i32 (lef s c cy) < 0 then f_X3_makePlan_108 fu k (i32 (lef s c cy)) (i32 (wts s f)) 0 S else f_X3_makePlan_108 fu k (i32 (lef s c cy)) (i32 (wts s f)) 1 S) = _
    rw [q_0]
    by_cases e : lef s c cy < 0
    · rw [ltT e (by omega) (by omega), if_pos e]
    · rw [ltF (by omega) (by omega) (by omega), if_neg e]
  | succ d ih =>
    intro p n S hp hn h h5
    obtain ⟨n, rfl⟩ : ∃ n', n = n' + 1 := ⟨n - 1, by omega⟩
    have h' : SJ (wI S 15 k p (i32 (clr s c p))) k s c f cy := h.fr (frP.w (by omega))
    obtain ⟨S', hf, h5', he⟩ := ih (p + 1) n (wI S 15 k p (i32 (clr s c p))) (by omega) (by omega) h' (fun p' hp' => by
      rw [w_ok]
      by_cases e : p' = p
      · subst e; rw [if_pos ⟨rfl, rfl, rfl⟩]
      · rw [if_neg (by omega)]; exact h5 p' (by omega))
    refine ⟨S', (frP.w (by omega)).trans hf, h5', ?_⟩
    rw [← he]
    rw [f_X3_makePlan_9, h.1, leF (by omega) (by omega) (by omega)]
    have e1 : (if i32 (mny s : Int) ≤ i32 (p : Int) + 1 then f_X3_makePlan_34 fu (f_X3_makePlan_9 fu k n) k (i32 (cy - sms (fun p => clr s c p + lst s p) p)) (i32 (sms (wgt s f) p)) (i32 (p : Int)) 0 S else f_X3_makePlan_34 fu (f_X3_makePlan_9 fu k n) k (i32 (cy - sms (fun p => clr s c p + lst s p) p)) (i32 (sms (wgt s f) p)) (i32 (p : Int)) (i32 (p : Int) + 1) S) = f_X3_makePlan_34 fu (f_X3_makePlan_9 fu k n) k (i32 (cy - sms (fun p => clr s c p + lst s p) p)) (i32 (sms (wgt s f) p)) (i32 (p : Int)) (i32 (nxt (mny s) p : Int)) S := by
      rw [q_1, q_add]
      unfold nxt
      by_cases e : p + 1 < mny s
      · rw [leF (by omega) (by omega) (by omega), if_pos e]; rfl
      · rw [leT (by omega) (by omega) (by omega), if_neg e]; rfl
    rw [e1, s_mp34 hfu h ho (by omega)]
    have e2 : cy - sms (fun p => clr s c p + lst s p) p - (clr s c p + lst s p) = cy - sms (fun p => clr s c p + lst s p) (p + 1) := by
      show _ = cy - (sms (fun p => clr s c p + lst s p) p + (clr s c p + lst s p)); omega
    rw [e2]
    rfl
/-- the greens that a junction has been given so far -/
def G1 (s : Nat → Nat) (c f : Nat → Int) (cy : Int) (p : Nat) : Int := lst s p + shr s c f cy p
theorem shr_b (ho : okJ s c f cy) (h0 : 0 ≤ lef s c cy) {p : Nat} (hp : p < mny s) : 0 ≤ shr s c f cy p ∧ shr s c f cy p ≤ 90 := by
  have h1 := shr_nn (f := f) h0 p
  have h2 := grn_le (f := f) h0 hp
  have h3 := clr_nn s c p
  have h4 := lst_b s p
  have h5 := ho.2.2.2
  refine ⟨h1, ?_⟩
  unfold grn at h2
  split at h2 <;> omega
theorem sshr_b (h0 : 0 ≤ lef s c cy) : ∀ p, p ≤ mny s → 0 ≤ lef s c cy - sms (shr s c f cy) p := by
  intro p hp
  have hr := (rst_b (f := f) h0).1
  have hmono : ∀ d p, p + d = mny s → sms (shr s c f cy) p ≤ sms (shr s c f cy) (mny s) := by
    intro d
    induction d with
    | zero => intro p hp; have : p = mny s := by omega
              subst this; exact Int.le_refl _
    | succ d ih =>
      intro p hp
      have h1 := ih (p + 1) (by omega)
      have h2 : sms (shr s c f cy) (p + 1) = sms (shr s c f cy) p + shr s c f cy p := rfl
      have h3 := shr_nn (f := f) h0 p
      omega
  have := hmono (mny s - p) p (by omega)
  unfold rst at hr
  omega
theorem s_so75 (ho : okJ s c f cy) (h0 : 0 ≤ lef s c cy) {x1 x2 : Int32} : ∀ (d p n : Nat) (S : Mem), p + d = mny s → d < n → SJ S k s c f cy → (∀ q, q < mny s → S.1 14 k q = i32 (G1 s c f cy q + (if q < p ∧ (q : Int) < rst s c f cy then 1 else 0))) →
    ∃ S' : Mem, frP k S S' ∧ (∀ a i, a ≠ 14 → S'.1 a k i = S.1 a k i) ∧ (∀ q, q < mny s → S'.1 14 k q = i32 (grn s c f cy q)) ∧ f_X3_shareOut_75 fu k x1 x2 n (i32 (rst s c f cy)) (i32 (p : Int)) S = some ((), S') := by
  intro d
  have hm := mny_le s
  have hr := rst_b (f := f) h0
  induction d with
  | zero =>
    intro p n S hp hn h h14
    obtain ⟨n, rfl⟩ : ∃ n', n = n' + 1 := ⟨n - 1, by omega⟩
    refine ⟨S, frP.rf, fun _ _ _ => rfl, fun q hq => ?_, ?_⟩
    · rw [h14 q hq]
      unfold grn G1
      by_cases e : (q : Int) < rst s c f cy
      · rw [if_pos ⟨by omega, e⟩, if_pos e]
      · rw [if_neg (fun z => e z.2), if_neg e]
    · rw [f_X3_shareOut_75, h.1, leT (by omega) (by omega) (by omega)]
      rfl
  | succ d ih =>
    intro p n S hp hn h h14
    obtain ⟨n, rfl⟩ : ∃ n', n = n' + 1 := ⟨n - 1, by omega⟩
    rw [f_X3_shareOut_75, h.1, leF (by omega) (by omega) (by omega)]
    by_cases e : (p : Int) < rst s c f cy
    · have hb := shr_b ho h0 (f := f) (p := p) (by omega)
      have hl := lst_b s p
      obtain ⟨S', hf, ho', hg, he⟩ := ih (p + 1) n (wI S 14 k p (i32 (G1 s c f cy p + 1))) (by omega) (by omega) (h.fr (frP.w (by omega))) (fun q hq => by
        rw [w_ok]
        by_cases e1 : q = p
        · subst e1; rw [if_pos ⟨rfl, rfl, rfl⟩, if_pos ⟨by omega, e⟩]
        · rw [if_neg (by omega), h14 q hq]
          by_cases e2 : q < p ∧ (q : Int) < rst s c f cy
          · rw [if_pos e2, if_pos ⟨by omega, e2.2⟩]
          · rw [if_neg e2, if_neg (fun z => e2 ⟨by omega, z.2⟩)])
      refine ⟨S', (frP.w (by omega)).trans hf, fun a i ha => (ho' a i ha).trans (w_ne (by omega)), hg, ?_⟩
      rw [leF (by omega) (by omega) (by omega), s_read (by omega) (by omega) (by omega), b1s, show ((p : Int)).toNat = p by omega, h14 p (by omega), if_neg (by omega), Int.add_zero, s_write (by omega) (by omega) (by omega), b2s, show ((p : Int)).toNat = p by omega, q_1, q_add, q_add]
      exact he
    · refine ⟨S, frP.rf, fun _ _ _ => rfl, fun q hq => ?_, ?_⟩
      · rw [h14 q hq]
        unfold grn G1
        by_cases e1 : (q : Int) < rst s c f cy
        · rw [if_pos ⟨by omega, e1⟩, if_pos e1]
        · rw [if_neg (fun z => e1 z.2), if_neg e1]
      · rw [leT (by omega) (by omega) (by omega)]
        rfl
theorem s_so5 (hfu : 8 ≤ fu) (ho : okJ s c f cy) (h0 : 0 ≤ lef s c cy) : ∀ (d p n : Nat) (S : Mem), p + d = mny s → d < n → SJ S k s c f cy → (∀ q, q < p → S.1 14 k q = i32 (G1 s c f cy q)) →
    ∃ S' : Mem, frP k S S' ∧ (∀ a i, a ≠ 14 → S'.1 a k i = S.1 a k i) ∧ (∀ q, q < mny s → S'.1 14 k q = i32 (grn s c f cy q)) ∧ f_X3_shareOut_5 fu k (i32 (lef s c cy)) (i32 (wts s f)) n (i32 (lef s c cy - sms (shr s c f cy) p)) (i32 (p : Int)) S = some ((), S') := by
  intro d
  have hm := mny_le s
  have hr := rst_b (f := f) h0
  have hw := wts_b (f := f) ho
  have hl := lef_b ho
  induction d with
  | zero =>
    intro p n S hp hn h h14
    obtain ⟨n, rfl⟩ : ∃ n', n = n' + 1 := ⟨n - 1, by omega⟩
    have hpm : p = mny s := by omega
    subst hpm
    obtain ⟨S', hf, ho', hg, he⟩ := s_so75 (fu := fu) (x1 := i32 (lef s c cy)) (x2 := i32 (wts s f)) ho h0 (mny s) 0 fu S (by omega) (by omega) h (fun q hq => by rw [h14 q hq, if_neg (by omega), Int.add_zero])
    refine ⟨S', hf, ho', hg, ?_⟩
    rw [f_X3_shareOut_5, h.1, leT (by omega) (by omega) (by omega), q_0]
    exact he
  | succ d ih =>
    intro p n S hp hn h h14
    obtain ⟨n, rfl⟩ : ∃ n', n = n' + 1 := ⟨n - 1, by omega⟩
    have hb := shr_b ho h0 (f := f) (p := p) (by omega)
    have hs := sshr_b (f := f) h0 p (by omega)
    have hls := lst_b s p
    obtain ⟨S', hf, ho', hg, he⟩ := ih (p + 1) n (wI S 14 k p (i32 (G1 s c f cy p))) (by omega) (by omega) (h.fr (frP.w (by omega))) (fun q hq => by
      rw [w_ok]
      by_cases e1 : q = p
      · subst e1; rw [if_pos ⟨rfl, rfl, rfl⟩]
      · rw [if_neg (by omega)]; exact h14 q (by omega))
    refine ⟨S', (frP.w (by omega)).trans hf, fun a i ha => (ho' a i ha).trans (w_ne (by omega)), hg, ?_⟩
    have e41 : ∀ K, f_X3_shareOut_41 fu K k (i32 (lef s c cy)) (i32 (wts s f)) (i32 (lef s c cy - sms (shr s c f cy) p)) (i32 (p : Int)) (i32 (shr s c f cy p)) S = K (i32 (lef s c cy - sms (shr s c f cy) (p + 1))) (i32 ((p + 1 : Nat) : Int)) (wI S 14 k p (i32 (G1 s c f cy p))) := by
      intro K
      unfold f_X3_shareOut_41
      rw [s_leastGreen h ho (by omega), b1s, q_add, s_write (by omega) (by omega) (by omega), b2s, show ((p : Int)).toNat = p by omega, q_sub, q_1, q_add]
      have e2 : lef s c cy - sms (shr s c f cy) p - shr s c f cy p = lef s c cy - sms (shr s c f cy) (p + 1) := by
        show _ = lef s c cy - (sms (shr s c f cy) p + shr s c f cy p); omega
      rw [e2]
      rfl
    rw [← he, f_X3_shareOut_5, h.1, leF (by omega) (by omega) (by omega), q_0]
    by_cases e : wts s f = 0
    · rw [eqT e, s_share h0 (by omega) (by omega) (by omega), b1s]
      have e3 : (lef s c cy).tdiv (mny s : Int) = shr s c f cy p := by unfold shr; rw [if_pos e]
      rw [e3, e41]
    · have hwp := wgt_nn s f p
      have hwl := wgt_le (s := s) (fun q hq => (ho.2.2.1 q hq).2) p
      have hmul : 0 ≤ lef s c cy * wgt s f p := Int.mul_nonneg h0 hwp
      have hmul2 : lef s c cy * wgt s f p ≤ 90 * 1800 := Int.mul_le_mul hl.2 hwl hwp (by omega)
      rw [eqF e (by omega) (by omega) (by omega) (by omega), s_weightOf hfu h ho (by omega), b1s, q_mul, s_share hmul (by omega) (by omega) (by omega), b1s]
      have e3 : (lef s c cy * wgt s f p).tdiv (wts s f) = shr s c f cy p := by unfold shr; rw [if_neg e]
      rw [e3, e41]
end MP
