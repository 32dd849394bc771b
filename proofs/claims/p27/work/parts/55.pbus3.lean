/-! callBus: the class takes the bus. -/
def imn (a b : Int) : Int := if b < a then b else a
theorem imn_b (a b : Int) : imn a b ≤ a ∧ imn a b ≤ b ∧ (imn a b = a ∨ imn a b = b) := by
  unfold imn; split <;> omega
theorem imn_as (a b c : Int) : imn (imn a b) c = imn a (imn b c) := by
  unfold imn; repeat (first | split | omega)
theorem q_jmin {a b : Int} (h1 : -2147483648 ≤ a) (h2 : a < 2147483648) (h3 : -2147483648 ≤ b) (h4 : b < 2147483648) : jmin (i32 a) (i32 b) = i32 (imn a b) := by
  unfold jmin imn
  by_cases h : b < a
  · rw [if_pos ((q_lt h3 h4 h1 h2).mpr h), if_pos h]
  · rw [if_neg (fun z => h ((q_lt h3 h4 h1 h2).mp z)), if_neg h]
/-- who gives, and how much: the phase now ph, the one that is wanted q, the place x -/
def busG (s : Nat → Nat) (c f : Nat → Int) (cy x ph : Int) (q : Nat) : Nat × Int := if ph = (q : Int) ∧ q + 1 < mny s then (q + 1, imn 5 (grn s c f cy (q + 1) - lst s (q + 1))) else if ph ≠ -1 ∧ ph < (q : Int) then (ph.toNat, imn 5 (imn (sms (gcs (grn s c f cy) (clr s c)) ph.toNat + grn s c f cy ph.toNat - 1 - x) (grn s c f cy ph.toNat - lst s ph.toNat))) else (q, 0)
theorem SP_eq {S T : Mem} {k : Nat} {s : Nat → Nat} {c f : Nat → Int} {cy : Int} (h : SJ S k s c f cy) (hp : PLN S k s c f cy) (he : ∀ a i, (a = 3 ∧ i < 11) ∨ (11 ≤ a ∧ a ≤ 16) → T.1 a k i = S.1 a k i) : SJ T k s c f cy ∧ PLN T k s c f cy := by
  obtain ⟨a1, a2, a3, a4, a5⟩ := h
  obtain ⟨b1, b2, b3⟩ := hp
  exact ⟨⟨(he _ _ (by omega)).trans a1, (he _ _ (by omega)).trans a2, fun p hp => (he _ _ (by omega)).trans (a3 p hp), fun p hp => (he _ _ (by omega)).trans (a4 p hp), fun p hp => (he _ _ (by omega)).trans (a5 p hp)⟩, ⟨fun p hp => (he _ _ (by omega)).trans (b1 p hp), (he _ _ (by omega)).trans b2, fun z => ⟨fun p hp => (he _ _ (by omega)).trans ((b3 z).1 p hp), fun u hu => (he _ _ (by omega)).trans ((b3 z).2 u hu)⟩⟩⟩
section TB
variable {fu k m q : Nat} {s : Nat → Nat} {c f : Nat → Int} {cy o t ph : Int} {T : Mem}
theorem busG_b (ho : okJ s c f cy) (h0 : 0 ≤ lef s c cy) (hq : q < mny s) {x : Int} (hph : ph = -1 ∨ ∃ r : Nat, r < mny s ∧ ph = (r : Int)) (hx : ∀ r : Nat, ph = (r : Int) → x < sms (gcs (grn s c f cy) (clr s c)) r + grn s c f cy r) : (busG s c f cy x ph q).1 < mny s ∧ 0 ≤ (busG s c f cy x ph q).2 ∧ (busG s c f cy x ph q).2 ≤ 5 ∧ ((busG s c f cy x ph q).2 ≠ 0 → (busG s c f cy x ph q).1 ≠ q ∧ (busG s c f cy x ph q).2 ≤ grn s c f cy (busG s c f cy x ph q).1 - lst s (busG s c f cy x ph q).1) := by
  unfold busG
  by_cases e1 : ph = (q : Int) ∧ q + 1 < mny s
  · rw [if_pos e1]
    have h1 := grn_ge (f := f) h0 (q + 1)
    have h2 := imn_b 5 (grn s c f cy (q + 1) - lst s (q + 1))
    exact ⟨e1.2, by show 0 ≤ imn 5 _; omega, h2.1, fun _ => ⟨by show q + 1 ≠ q; omega, h2.2.1⟩⟩
  · rw [if_neg e1]
    by_cases e2 : ph ≠ -1 ∧ ph < (q : Int)
    · rw [if_pos e2]
      rcases hph with z | ⟨r, hr, rfl⟩
      · exact absurd z e2.1
      · have hx' := hx r rfl
        have hr' : ((r : Int)).toNat = r := by omega
        rw [hr']
        have h1 := grn_ge (f := f) h0 r
        have h3 := imn_b (sms (gcs (grn s c f cy) (clr s c)) r + grn s c f cy r - 1 - x) (grn s c f cy r - lst s r)
        have h2 := imn_b 5 (imn (sms (gcs (grn s c f cy) (clr s c)) r + grn s c f cy r - 1 - x) (grn s c f cy r - lst s r))
        exact ⟨hr, by show 0 ≤ imn 5 _; omega, h2.1, fun _ => ⟨by show r ≠ q; omega, by show imn 5 _ ≤ grn s c f cy r - lst s r; omega⟩⟩
    · rw [if_neg e2]
      exact ⟨hq, Int.le_refl 0, by show (0 : Int) ≤ 5; omega, fun z => absurd rfl z⟩
theorem s_take (hfu : 100 ≤ fu) (ho : okJ s c f cy) (h0 : 0 ≤ lef s c cy) (hJ : SJ T k s c f cy) (hP : PLN T k s c f cy) (h9 : T.1 3 k 9 = i32 o) (hoo : 0 ≤ o ∧ o < cy) (ht : 0 ≤ t ∧ t < 10000) (hm : m < 4) (hlow : lowP s m (mny s) 0 = (q : Int)) (hq : q < mny s) (hph : f_X3_phaseIn fu k (i32 t) T = some (i32 ph)) (hphr : ph = -1 ∨ ∃ r : Nat, r < mny s ∧ ph = (r : Int)) :
    ∃ T' : Mem, f_X3_takeBus fu k (i32 t) (i32 (m : Int)) T = some (i32 (busG s c f cy ((t - o) % cy) ph q).2, T') ∧ T'.1 3 k 13 = i32 (t - (t - o) % cy + cy) ∧ T'.1 3 k 15 = i32 (q : Int) ∧ T'.1 3 k 16 = i32 (busG s c f cy ((t - o) % cy) ph q).2 ∧ (∃ a : Int, T'.1 3 k 14 = i32 a ∧ -1 ≤ a ∧ a < 4 ∧ ((busG s c f cy ((t - o) % cy) ph q).2 ≠ 0 → a = ((busG s c f cy ((t - o) % cy) ph q).1 : Int))) ∧ (∀ a b i, ¬ (a = 3 ∧ b = k ∧ 13 ≤ i ∧ i ≤ 16) → T'.1 a b i = T.1 a b i) ∧ T'.2 = T.2 := by
  have hcy := ho.2.2.2
  have hmn := mny_le s
  have hx1 := Int.emod_nonneg (t - o) (show cy ≠ 0 by omega)
  have hx2 := Int.emod_lt_of_pos (t - o) (show 0 < cy by omega)
  have el : f_X3_lowestPhaseWith fu k (i32 (m : Int)) T = some (i32 (q : Int)) := by
    rw [← hlow]; exact s_low2 hJ ho hm (mny s) 0 fu (by omega) (by omega)
  unfold f_X3_takeBus f_X3_takeBus_86 f_X3_takeBus_134
  rw [el, b1s, hph, b1s, s_place hJ.2.1 h9 (by omega) (by omega) (by omega), b1s, hJ.2.1, q_sub, q_add]
  generalize hU : wI (wI (wI (wI T 3 k 13 (i32 (t - (t - o) % cy + cy))) 3 k 14 (-1)) 3 k 15 (i32 (q : Int))) 3 k 16 0 = U
  have far : ∀ a b i, ¬ (a = 3 ∧ b = k ∧ 13 ≤ i ∧ i ≤ 16) → U.1 a b i = T.1 a b i := fun a b i hq => by rw [← hU, w_ne (by omega), w_ne (by omega), w_ne (by omega), w_ne (by omega)]
  have u13 : U.1 3 k 13 = i32 (t - (t - o) % cy + cy) := by rw [← hU, w_ne (by omega), w_ne (by omega), w_ne (by omega), w_eq]
  have u14 : U.1 3 k 14 = i32 (-1) := by rw [← hU, w_ne (by omega), w_ne (by omega), w_eq, q_m1]
  have u15 : U.1 3 k 15 = i32 (q : Int) := by rw [← hU, w_ne (by omega), w_eq]
  have u16 : U.1 3 k 16 = i32 0 := by rw [← hU, w_eq]; rfl
  have u2 : U.2 = T.2 := by rw [← hU]; rfl
  -- what a gift leaves behind
  have gift : ∀ (gv : Nat) (g : Int), gv < mny s → ∃ T' : Mem, wI (wI U 3 k 14 (i32 (gv : Int))) 3 k 16 (i32 g) = T' ∧ T'.1 3 k 16 = i32 g ∧ T'.1 3 k 13 = i32 (t - (t - o) % cy + cy) ∧ T'.1 3 k 15 = i32 (q : Int) ∧ T'.1 3 k 14 = i32 (gv : Int) ∧ (∀ a b i, ¬ (a = 3 ∧ b = k ∧ 13 ≤ i ∧ i ≤ 16) → T'.1 a b i = T.1 a b i) ∧ T'.2 = T.2 := by
    intro gv g hgv
    refine ⟨_, rfl, w_eq, ?_, ?_, ?_, fun a b i hq => ?_, u2⟩
    · rw [w_ne (by omega), w_ne (by omega)]; exact u13
    · rw [w_ne (by omega), w_ne (by omega)]; exact u15
    · rw [w_ne (by omega), w_eq]
    · rw [w_ne (by omega), w_ne (by omega)]; exact far a b i hq
  have none_ : ∀ G : Nat × Int, G.2 = 0 → ∃ T' : Mem, (some (U.1 3 k 16, U) : Option (Int32 × Mem)) = some (i32 G.2, T') ∧ T'.1 3 k 13 = i32 (t - (t - o) % cy + cy) ∧ T'.1 3 k 15 = i32 (q : Int) ∧ T'.1 3 k 16 = i32 G.2 ∧ (∃ a : Int, T'.1 3 k 14 = i32 a ∧ -1 ≤ a ∧ a < 4 ∧ (G.2 ≠ 0 → a = (G.1 : Int))) ∧ (∀ a b i, ¬ (a = 3 ∧ b = k ∧ 13 ≤ i ∧ i ≤ 16) → T'.1 a b i = T.1 a b i) ∧ T'.2 = T.2 := by
    intro G hG
    rw [hG, u16]
    exact ⟨U, rfl, u13, u15, u16, ⟨-1, u14, by omega, by omega, fun z => absurd rfl z⟩, far, u2⟩
  have hWS : ∀ v : Int32, SJ (wI U 3 k 14 v) k s c f cy ∧ PLN (wI U 3 k 14 v) k s c f cy := fun v => SP_eq hJ hP (fun a i hq => by rw [w_ne (by omega)]; exact far a k i (by omega))
  have part86 : (if i32 ph = -1 then some (U.1 3 k 16, U) else if i32 (q : Int) ≤ i32 ph then some (U.1 3 k 16, U) else b1 (f_X3_secondsOfGreenBehind fu k (i32 ph) (i32 t) (wI U 3 k 14 (i32 ph))) fun r108 => b1 (f_X3_spareGreen fu k ((wI U 3 k 14 (i32 ph)).1 3 k 14) (wI U 3 k 14 (i32 ph))) fun r122 => some ((wI (wI U 3 k 14 (i32 ph)) 3 k 16 (jmin 5 (jmin r108 r122))).1 3 k 16, wI (wI U 3 k 14 (i32 ph)) 3 k 16 (jmin 5 (jmin r108 r122)))) = (if ph ≠ -1 ∧ ph < (q : Int) then some (i32 (imn 5 (imn (sms (gcs (grn s c f cy) (clr s c)) ph.toNat + grn s c f cy ph.toNat - 1 - (t - o) % cy) (grn s c f cy ph.toNat - lst s ph.toNat))), wI (wI U 3 k 14 (i32 ph)) 3 k 16 (i32 (imn 5 (imn (sms (gcs (grn s c f cy) (clr s c)) ph.toNat + grn s c f cy ph.toNat - 1 - (t - o) % cy) (grn s c f cy ph.toNat - lst s ph.toNat))))) else some (U.1 3 k 16, U)) := by
    rcases hphr with rfl | ⟨r, hr, rfl⟩
    · rw [if_pos q_m1.symm, if_neg (fun z => z.1 rfl)]
    · rw [q_m1, eqF (by omega) (by omega) (by omega) (by omega) (by omega)]
      by_cases e : (q : Int) ≤ (r : Int)
      · rw [leT e (by omega) (by omega), if_neg (by omega)]
      · have hb := gsum_b (f := f) h0 r (by omega)
        have hg := grn_b (f := f) ho h0 hr
        have hl := lst_b s r
        have i1 := imn_b (sms (gcs (grn s c f cy) (clr s c)) r + grn s c f cy r - 1 - (t - o) % cy) (grn s c f cy r - lst s r)
        obtain ⟨w1, w2⟩ := hWS (i32 (r : Int))
        rw [leF (by omega) (by omega) (by omega), if_pos (by omega), w_eq, s_behind (by omega) ho h0 w1 w2 (by rw [w_ne (by omega), far _ _ _ (by omega)]; exact h9) hoo (by omega) hr, b1s, s_spare ho h0 w1 w2 hr, b1s, q_jmin (by omega) (by omega) (by omega) (by omega), q_5, q_jmin (by omega) (by omega) (by omega) (by omega), w_eq, show ((r : Int)).toNat = r by omega]
  by_cases e1 : ph = (q : Int)
  · have e3 : i32 (q : Int) + 1 = i32 ((q : Int) + 1) := by rw [q_1, q_add]
    rw [eqT e1, far 3 k 7 (by omega), hJ.1, e3]
    by_cases e2 : q + 1 < mny s
    · have hg := grn_b (f := f) ho h0 e2
      have hl := lst_b s (q + 1)
      obtain ⟨w1, w2⟩ := hWS (i32 ((q + 1 : Nat) : Int))
      have eG : busG s c f cy ((t - o) % cy) ph q = (q + 1, imn 5 (grn s c f cy (q + 1) - lst s (q + 1))) := by unfold busG; rw [if_pos ⟨e1, e2⟩]
      obtain ⟨T', g1, g2, g3, g4, g5, g6, g7⟩ := gift (q + 1) (imn 5 (grn s c f cy (q + 1) - lst s (q + 1))) e2
      have e0 : i32 ((q : Int) + 1) = i32 ((q + 1 : Nat) : Int) := rfl
      rw [leF (by omega) (by omega) (by omega), e0, w_eq, s_spare ho h0 w1 w2 e2, b1s, q_5, q_jmin (by omega) (by omega) (by omega) (by omega), g1, eG]
      exact ⟨T', by rw [g2], g3, g4, g2, ⟨((q + 1 : Nat) : Int), g5, by omega, by omega, fun _ => rfl⟩, g6, g7⟩
    · have eG : busG s c f cy ((t - o) % cy) ph q = (q, 0) := by unfold busG; rw [if_neg (by omega), if_neg (by omega)]
      rw [leT (by omega) (by omega) (by omega), part86, if_neg (by omega), eG]
      exact none_ (q, 0) rfl
  · have hphb : -1 ≤ ph ∧ ph < 4 := by
      rcases hphr with z | ⟨r, hr, z⟩ <;> rw [z] <;> omega
    rw [eqF e1 (by omega) (by omega) (by omega) (by omega), part86]
    by_cases e2 : ph ≠ -1 ∧ ph < (q : Int)
    · have eG : busG s c f cy ((t - o) % cy) ph q = (ph.toNat, imn 5 (imn (sms (gcs (grn s c f cy) (clr s c)) ph.toNat + grn s c f cy ph.toNat - 1 - (t - o) % cy) (grn s c f cy ph.toNat - lst s ph.toNat))) := by unfold busG; rw [if_neg (fun z => e1 z.1), if_pos e2]
      rcases hphr with z | ⟨r, hr, rfl⟩
      · exact absurd z e2.1
      · rw [show ((r : Int)).toNat = r by omega] at eG ⊢
        obtain ⟨T', g1, g2, g3, g4, g5, g6, g7⟩ := gift r (imn 5 (imn (sms (gcs (grn s c f cy) (clr s c)) r + grn s c f cy r - 1 - (t - o) % cy) (grn s c f cy r - lst s r))) hr
        rw [if_pos e2, g1, eG]
        exact ⟨T', rfl, g3, g4, g2, ⟨(r : Int), g5, by omega, by omega, fun _ => rfl⟩, g6, g7⟩
    · have eG : busG s c f cy ((t - o) % cy) ph q = (q, 0) := by unfold busG; rw [if_neg (fun z => e1 z.1), if_neg e2]
      rw [if_neg e2, eG]
      exact none_ (q, 0) rfl
end TB
