/-! A junction's settings change: both sides at once. -/
def frN (k : Nat) (S S' : Mem) : Prop := (∀ a b i : Nat, (b ≠ 0 ∨ ((a ≠ 20 ∨ i / 16 ≠ k) ∧ (a ≠ 21 ∨ i / 4 ≠ k) ∧ (a ≠ 22 ∨ i ≠ k) ∧ (a ≠ 23 ∨ i / 4 ≠ k) ∧ (a ≠ 8 ∨ i ≠ 0))) → S'.1 a b i = S.1 a b i) ∧ S'.2 = S.2
theorem frN.trans {k : Nat} {S S' S2 : Mem} (h : frN k S S') (h' : frN k S' S2) : frN k S S2 := ⟨fun a b i hq => (h'.1 a b i hq).trans (h.1 a b i hq), h'.2.trans h.2⟩
theorem frN.w {k c j : Nat} {v : Int32} {S : Mem} (h : (c = 20 ∧ j / 16 = k) ∨ (c = 21 ∧ j / 4 = k) ∨ (c = 22 ∧ j = k) ∨ (c = 23 ∧ j / 4 = k) ∨ (c = 8 ∧ j = 0)) : frN k S (wI S c 0 j v) := ⟨fun a b i hq => w_ne (by omega), rfl⟩
theorem SM.fn {S S' : Mem} {k k' : Nat} {s : Nat → Nat} {c f : Nat → Int} {cy : Int} (h : SM S k' s c f cy) (hf : frN k S S') (hk : k' ≠ k) : SM S' k' s c f cy := by
  have hm := mny_le s
  obtain ⟨h0, h1, h2, h3, h4, h5⟩ := h
  exact ⟨h0, (hf.1 _ _ _ (by omega)).trans h1, (hf.1 _ _ _ (by omega)).trans h2, fun p hp => (hf.1 _ _ _ (by omega)).trans (h3 p hp), fun q hq => (hf.1 _ _ _ (by omega)).trans (h4 q hq), fun m hm => (hf.1 _ _ _ (by omega)).trans (h5 m hm)⟩
theorem moU.fn {S S' : Mem} {k k' : Nat} {u : Option Bus} (h : moU S k' u) (hf : frN k S S') : moU S' k' u := by
  cases u with
  | none => exact (hf.1 34 0 k' (by omega)).trans h
  | some b =>
    obtain ⟨h1, h2, h3, h4, h5⟩ := h
    exact ⟨(hf.1 _ _ _ (by omega)).trans h1, (hf.1 _ _ _ (by omega)).trans h2, (hf.1 _ _ _ (by omega)).trans h3, (hf.1 _ _ _ (by omega)).trans h4, (hf.1 _ _ _ (by omega)).trans h5⟩
theorem moV.fn {S S' : Mem} {k : Nat} {C : Cf} {V : Rn} (h : moV S C V) (hf : frN k S S') : moV S' C V := by
  obtain ⟨h1, h2, h3, h4, h5, h6, h7⟩ := h
  exact ⟨(hf.1 _ _ _ (by omega)).trans h1, (hf.1 _ _ _ (by omega)).trans h2, (hf.1 _ _ _ (by omega)).trans h3, (hf.1 _ _ _ (by omega)).trans h4, (hf.1 _ _ _ (by omega)).trans h5, fun k' hk => ⟨(hf.1 _ _ _ (by omega)).trans (h6 k' hk).1, (hf.1 _ _ _ (by omega)).trans (h6 k' hk).2.1, (h6 k' hk).2.2.fn hf⟩, fun k' hk => ⟨(hf.1 _ _ _ (by omega)).trans (h7 k' hk).1, fun i hi => (hf.1 _ _ _ (by omega)).trans ((h7 k' hk).2 i hi)⟩⟩
def updC (C : Cf) (k : Nat) (s : Nat → Nat) (c f : Nat → Int) : Cf := (cJ C, cCy C, va_up (cS C) k s, va_up (cC C) k c, va_up (cF C) k f, cO C, cLs C, cLr C)
theorem RR_upd {S S' SR SR' : Mem} {C : Cf} {V : Rn} {k : Nat} {s : Nat → Nat} {c f : Nat → Int} (h1 : okC C) (h2 : kcC S C) (h3 : moC SR C) (h4 : okV C V) (h5 : kcV S C V) (h6 : moV SR C V) (hb : vB V = false) (hk : k < cJ C) (ho : okJ s c f (cCy C)) (hf : frJ k S S') (hJ : SJ S' k s c f (cCy C)) (hP : PLN S' k s c f (cCy C)) (hg : frN k SR SR') (hM : SM SR' k s c f (cCy C)) : RR S' SR' := by
  have hj := h1.2.1
  have hC' : okC (updC C k s c f) := by
    refine ⟨h1.1, h1.2.1, h1.2.2.1, h1.2.2.2.1, fun k' hk' => ⟨?_, (h1.2.2.2.2.1 k' hk').2⟩, h1.2.2.2.2.2⟩
    show okJ (va_up (cS C) k s k') (va_up (cC C) k c k') (va_up (cF C) k f k') (cCy C)
    by_cases e : k' = k
    · subst e; rw [va_up_self, va_up_self, va_up_self]; exact ho
    · rw [va_up_ne _ _ e, va_up_ne _ _ e, va_up_ne _ _ e]; exact (h1.2.2.2.2.1 k' hk').1
  refine ⟨updC C k s c f, V, hC', ?_, ?_, okV_idle h4 hb rfl hC', kcV_idle (h5.fj hf) h4 hb rfl, moV_idle (h6.fn hg) rfl⟩
  · refine ⟨(hf.1 _ _ _ (by omega)).trans h2.1, (hf.1 _ _ _ (by omega)).trans h2.2.1, fun k' hk' => ?_, fun k' hk' => ⟨(hf.1 _ _ _ (by omega)).trans (h2.2.2.2 k' hk').1, (hf.1 _ _ _ (by omega)).trans (h2.2.2.2 k' hk').2⟩⟩
    show SJ S' k' (va_up (cS C) k s k') (va_up (cC C) k c k') (va_up (cF C) k f k') (cCy C) ∧ PLN S' k' (va_up (cS C) k s k') (va_up (cC C) k c k') (va_up (cF C) k f k') (cCy C) ∧ S'.1 3 k' 9 = i32 (cO C k')
    obtain ⟨g1, g2, g3⟩ := h2.2.2.1 k' hk'
    by_cases e : k' = k
    · subst e; rw [va_up_self, va_up_self, va_up_self]; exact ⟨hJ, hP, (hf.1 _ _ _ (by omega)).trans g3⟩
    · rw [va_up_ne _ _ e, va_up_ne _ _ e, va_up_ne _ _ e]; exact ⟨g1.fj hf e, g2.fj hf e, (hf.1 _ _ _ (by omega)).trans g3⟩
  · refine ⟨(hg.1 _ _ _ (by omega)).trans h3.1, fun k' hk' => ?_, fun k' hk' => ⟨(hg.1 _ _ _ (by omega)).trans (h3.2.2 k' hk').1, (hg.1 _ _ _ (by omega)).trans (h3.2.2 k' hk').2⟩⟩
    show SM SR' k' (va_up (cS C) k s k') (va_up (cC C) k c k') (va_up (cF C) k f k') (cCy C) ∧ SR'.1 24 0 k' = i32 (cO C k')
    obtain ⟨g1, g3⟩ := h3.2.1 k' hk'
    by_cases e : k' = k
    · subst e; rw [va_up_self, va_up_self, va_up_self]; exact ⟨hM, (hg.1 _ _ _ (by omega)).trans g3⟩
    · rw [va_up_ne _ _ e, va_up_ne _ _ e, va_up_ne _ _ e]; exact ⟨g1.fn hg e, (hg.1 _ _ _ (by omega)).trans g3⟩
theorem sim_setFlow (fu : Nat) (hfu : 100 ≤ fu) : Sim_setFlow fu RR := by
  intro S SR x y w h
  have h' := h
  obtain ⟨C, V, h1, h2, h3, h4, h5, h6⟩ := h'
  have hx := q_rng x
  have hy := q_rng y
  have hw := q_rng w
  rw [← q_self x, ← q_self y, ← q_self w]
  generalize x.toInt = a at *
  generalize y.toInt = b at *
  generalize w.toInt = v at *
  have hj : 2 ≤ cJ C ∧ cJ C ≤ 5 := ⟨h1.1, h1.2.1⟩
  unfold fx_X7_setFlow f_X8_setFlow f_X8_setFlow_20 f_X8_setFlow_19 f_X8_setFlow_20 f_X8_setFlow_59
  rw [s_at hj.2 h2.1 hx, m_isJ hj h3.1 hx, b1s]
  by_cases e : 0 ≤ a ∧ a < cJ C
  · obtain ⟨k, rfl⟩ : ∃ k : Nat, a = (k : Int) := ⟨a.toNat, by omega⟩
    have hk : k < cJ C := by omega
    obtain ⟨hoJ, hoo⟩ := h1.2.2.2.2.1 k hk
    rw [if_pos e, bxr, boT (decide_eq_true e), m_isM hy, b1s, show ((k : Int)).toNat = k by omega, s_checkMovement hy]
    by_cases e1 : 0 ≤ b ∧ b < 4
    · obtain ⟨m, rfl⟩ : ∃ m : Nat, b = (m : Int) := ⟨b.toNat, by omega⟩
      have hm : m < 4 := by omega
      rw [if_pos e1, bxr, boT (decide_eq_true e1), if_neg (by decide +kernel)]
      have ein : f_X8_in fu (i32 v) 0 1800 SR = some (bo (decide (0 ≤ v ∧ v ≤ 1800))) := s_in (b := 0) (c := 1800) (by omega) (by omega) (by omega) (by omega) (by omega) (by omega)
      have eout : f_X7_isOutside fu (i32 v) 0 1800 S = some (bo (!decide (0 ≤ v ∧ v ≤ 1800))) := s_isOutside (b := 0) (c := 1800) (by omega) (by omega) (by omega) (by omega) (by omega) (by omega)
      rw [ein, eout, b1s, b1s]
      by_cases e3 : 0 ≤ v ∧ v ≤ 1800
      · rw [decide_eq_true e3, boT rfl, Bool.not_true, boF rfl, s_settingUp h5, h6.2.2.2.2.1]
        cases hb : vB V with
        | true =>
          rw [if_neg (by simp), bxl, boT rfl, m_holdsN (by decide +kernel), b2s, if_pos rfl]
          exact ⟨_, _, _, _, 3, rfl, rfl, rfl, w_eq, (fun v hv => by cases hv), h.mf moF.th⟩
        | false =>
          have hJ := (h2.2.2.1 k hk).1
          have ho' : okJ (cS C k) (cC C k) (va_up (cF C k) m v) (cCy C) := ⟨hoJ.1, hoJ.2.1, fun m' hm' => by
            unfold va_up; split
            · omega
            · exact hoJ.2.2.1 m' hm', hoJ.2.2.2⟩
          have hJ' : SJ (wI S 13 k m (i32 v)) k (cS C k) (cC C k) (va_up (cF C k) m v) (cCy C) := ⟨(w_ne (by omega)).trans hJ.1, (w_ne (by omega)).trans hJ.2.1, fun p hp => (w_ne (by omega)).trans (hJ.2.2.1 p hp), fun q hq => (w_ne (by omega)).trans (hJ.2.2.2.1 q hq), fun m' hm' => by
            rw [w_ok]
            unfold va_up
            by_cases em : m' = m
            · rw [if_pos ⟨rfl, rfl, em⟩, if_pos em]
            · rw [if_neg (by omega), if_neg em]; exact hJ.2.2.2.2 m' hm'⟩
          obtain ⟨S', hmp, hfp, hsj, hpl⟩ := s_makePlan (fu := fu) hfu hJ' ho'
          rw [if_pos rfl, bxr, boF rfl, m_holds0, b2s, if_neg (by decide +kernel), q_4, q_mul, q_add, gdt (q_inb (by omega) (by omega) (by omega)), gdt (q_inb (by omega) (by omega) (by omega)), q_nat (by omega) (by omega), show (4 * (k : Int) + (m : Int)).toNat = 4 * k + m by omega]
          unfold f_X3_flowOf f_X3_changeFlow
          rw [s_read (by omega) (by omega) (by omega), b1s, b1s, s_write (by omega) (by omega) (by omega), b2s, show ((m : Int)).toNat = m by omega, hmp, b2s, b2s]
          have hM := (h3.2.1 k hk).1
          refine ⟨_, _, _, _, 0, rfl, rfl, rfl, (w_ne (by omega)).trans w_eq, (fun v hv => ?_), RR_upd h1 h2 h3 h4 h5 h6 hb hk ho' ((frJ.w (by omega)).trans (frJ.pl hfp)) hsj hpl ((frN.w (by omega)).trans (frN.w (k := k) (by omega))) ⟨hM.1, ?_, ?_, fun p hp => ?_, fun q hq => ?_, fun m' hm' => ?_⟩⟩
          · cases hv
            rw [w_ne (by omega), hJ.2.2.2.2 m hm, hM.2.2.2.2.2 m hm]
          · rw [w_ne (by omega), w_ne (by omega)]; exact hM.2.1
          · rw [w_ne (by omega), w_ne (by omega)]; exact hM.2.2.1
          · rw [w_ne (by omega), w_ne (by omega)]; exact hM.2.2.2.1 p hp
          · rw [w_ne (by omega), w_ne (by omega)]; exact hM.2.2.2.2.1 q hq
          · rw [w_ok]
            unfold va_up
            by_cases em : m' = m
            · rw [if_pos ⟨rfl, rfl, by omega⟩, if_pos em]
            · rw [if_neg (by omega), if_neg em, w_ne (by omega)]; exact hM.2.2.2.2.2 m' hm'
      · rw [decide_eq_false e3, boF rfl, Bool.not_false, boT rfl, m_holdsN (by decide +kernel), b2s, if_pos rfl]
        exact ⟨_, _, _, _, 2, rfl, rfl, rfl, w_eq, (fun v hv => by cases hv), h.mf moF.th⟩
    · rw [if_neg e1, bxl, boF (decide_eq_false e1), if_pos rfl, m_holdsN (by decide +kernel), b2s, if_pos rfl]
      exact ⟨_, _, _, _, 1, rfl, rfl, rfl, w_eq, (fun v hv => by cases hv), h.mf moF.th⟩
  · rw [if_neg e, bxl, boF (decide_eq_false e), if_pos rfl, m_holdsN (by decide +kernel), b2s, if_pos rfl]
    exact ⟨_, _, _, _, 1, rfl, rfl, rfl, w_eq, (fun v hv => by cases hv), h.mf moF.th⟩
