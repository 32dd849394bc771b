/-! Setting up. -/
def frJ (k : Nat) (S S' : Mem) : Prop := (∀ a b i : Nat, (b ≠ k ∨ (a ≠ 11 ∧ a ≠ 12 ∧ a ≠ 13 ∧ a ≠ 14 ∧ a ≠ 15 ∧ a ≠ 16 ∧ (a ≠ 3 ∨ (i ≠ 7 ∧ i ≠ 10)))) → S'.1 a b i = S.1 a b i) ∧ S'.2 = S.2
theorem frJ.trans {k : Nat} {S S' S2 : Mem} (h : frJ k S S') (h' : frJ k S' S2) : frJ k S S2 := ⟨fun a b i hq => (h'.1 a b i hq).trans (h.1 a b i hq), h'.2.trans h.2⟩
theorem frJ.pl {k : Nat} {S S' : Mem} (h : frP k S S') : frJ k S S' := ⟨fun a b i hq => h.1 a b i (by omega), h.2⟩
theorem frJ.w {k c j : Nat} {v : Int32} {S : Mem} (h : c = 11 ∨ c = 12 ∨ c = 13 ∨ (c = 3 ∧ j = 7)) : frJ k S (wI S c k j v) := ⟨fun a b i hq => w_ne (by omega), rfl⟩
theorem SJ.fj {S S' : Mem} {k k' : Nat} {s : Nat → Nat} {c f : Nat → Int} {cy : Int} (h : SJ S k' s c f cy) (hf : frJ k S S') (hk : k' ≠ k) : SJ S' k' s c f cy := by
  obtain ⟨h1, h2, h3, h4, h5⟩ := h
  exact ⟨(hf.1 _ _ _ (by omega)).trans h1, (hf.1 _ _ _ (by omega)).trans h2, fun p hp => (hf.1 _ _ _ (by omega)).trans (h3 p hp), fun q hq => (hf.1 _ _ _ (by omega)).trans (h4 q hq), fun m hm => (hf.1 _ _ _ (by omega)).trans (h5 m hm)⟩
theorem PLN.fj {S S' : Mem} {k k' : Nat} {s : Nat → Nat} {c f : Nat → Int} {cy : Int} (h : PLN S k' s c f cy) (hf : frJ k S S') (hk : k' ≠ k) : PLN S' k' s c f cy := by
  obtain ⟨h1, h2, h3⟩ := h
  exact ⟨fun p hp => (hf.1 _ _ _ (by omega)).trans (h1 p hp), (hf.1 _ _ _ (by omega)).trans h2, fun h0 => ⟨fun p hp => (hf.1 _ _ _ (by omega)).trans ((h3 h0).1 p hp), fun u hu => (hf.1 _ _ _ (by omega)).trans ((h3 h0).2 u hu)⟩⟩
theorem kcU.fj {S S' : Mem} {k k' : Nat} {cy o : Int} {u : Option Bus} (h : kcU S k' cy o u) (hf : frJ k S S') : kcU S' k' cy o u := by
  cases u with
  | none => exact (hf.1 3 k' 13 (by omega)).trans h
  | some b =>
    obtain ⟨h1, h2, h3, a, h4, h5⟩ := h
    exact ⟨(hf.1 _ _ _ (by omega)).trans h1, (hf.1 _ _ _ (by omega)).trans h2, (hf.1 _ _ _ (by omega)).trans h3, a, (hf.1 _ _ _ (by omega)).trans h4, h5⟩
theorem kcV.fj {S S' : Mem} {k : Nat} {C : Cf} {V : Rn} (h : kcV S C V) (hf : frJ k S S') : kcV S' C V := by
  obtain ⟨h1, h2, h3, h4, h5, h6, h7⟩ := h
  exact ⟨(hf.1 _ _ _ (by omega)).trans h1, (hf.1 _ _ _ (by omega)).trans h2, (hf.1 _ _ _ (by omega)).trans h3, (hf.1 _ _ _ (by omega)).trans h4, (hf.1 _ _ _ (by omega)).trans h5, fun k' hk => ⟨(hf.1 _ _ _ (by omega)).trans (h6 k' hk).1, (hf.1 _ _ _ (by omega)).trans (h6 k' hk).2.1, (h6 k' hk).2.2.fj hf⟩, fun k' hk => ⟨(hf.1 _ _ _ (by omega)).trans (h7 k' hk).1, fun r hr => (hf.1 _ _ _ (by omega)).trans ((h7 k' hk).2 r hr)⟩⟩
/-- nothing runs: other settings do not matter to what runs -/
theorem okV_idle {C C' : Cf} {V : Rn} (h : okV C V) (hb : vB V = false) (hj : cJ C' = cJ C) (hC : okC C') : okV C' V := by
  obtain ⟨g1, g2, g3, g4, g5, g6, g7, g8, g9, g10, g11, g12, g13⟩ := h
  obtain ⟨i1, i2⟩ := g12 hb
  refine ⟨g1, g2, g3, g4, g5, g6, g7, g8, fun k hk => g9 k (by omega), g10, fun k hk => ?_, fun _ => ⟨i1, fun k hk => i2 k (by omega)⟩, fun k hk b hbk => ?_⟩
  · obtain ⟨e1, -, e3, -⟩ := i2 k (by omega)
    obtain ⟨e1', -, -, -⟩ := i2 (k + 1) (by omega)
    have := hC.2.2.2.2.2 k hk
    rw [e3, e1']
    refine ⟨by simp; omega, fun e he => absurd he List.not_mem_nil, List.Pairwise.nil⟩
  · rw [(i2 k (by omega)).2.2.2] at hbk
    cases hbk
theorem kcV_idle {S : Mem} {C C' : Cf} {V : Rn} (h : kcV S C V) (ho : okV C V) (hb : vB V = false) (hj : cJ C' = cJ C) : kcV S C' V := by
  obtain ⟨g1, g2, g3, g4, g5, g6, g7⟩ := h
  have hi := (ho.2.2.2.2.2.2.2.2.2.2.2.1 hb).2
  refine ⟨g1, g2, g3, g4, g5, fun k hk => ⟨(g6 k (by omega)).1, (g6 k (by omega)).2.1, ?_⟩, fun k hk => g7 k (by omega)⟩
  have := (g6 k (by omega)).2.2
  rw [(hi k (by omega)).2.2.2] at this ⊢
  exact this
theorem moV_idle {S : Mem} {C C' : Cf} {V : Rn} (h : moV S C V) (hj : cJ C' = cJ C) : moV S C' V := by
  obtain ⟨g1, g2, g3, g4, g5, g6, g7⟩ := h
  exact ⟨g1, g2, g3, g4, g5, fun k hk => g6 k (by omega), fun k hk => g7 k (by omega)⟩
section ST
variable {fu : Nat} {S SR : Mem} {C : Cf} {V : Rn}
theorem s_settingUp (h : kcV S C V) : fx_X7_checkSettingUp fu S = if vB V = false then some (.inr ()) else some (.inl 2) := by
  unfold fx_X7_checkSettingUp
  rw [h.2.2.2.2.1]
  cases vB V with
  | false => rw [boF rfl, if_pos rfl]
  | true => rw [boT rfl, if_neg (by simp)]
end ST
theorem sim_setOffset (fu : Nat) : Sim_setOffset fu RR := by
  intro S SR x y h
  have h' := h
  obtain ⟨C, V, h1, h2, h3, h4, h5, h6⟩ := h'
  have hx := q_rng x
  have hy := q_rng y
  rw [← q_self x, ← q_self y]
  generalize x.toInt = a at *
  generalize y.toInt = b at *
  have hj : 2 ≤ cJ C ∧ cJ C ≤ 5 := ⟨h1.1, h1.2.1⟩
  have hcy : 30 ≤ cCy C ∧ cCy C ≤ 90 := ⟨h1.2.2.1, h1.2.2.2.1⟩
  unfold fx_X7_setOffset f_X8_setOffset f_X8_setOffset_43
  rw [s_at hj.2 h2.1 hx, m_isJ hj h3.1 hx, b1s]
  by_cases e : 0 ≤ a ∧ a < cJ C
  · obtain ⟨k, rfl⟩ : ∃ k : Nat, a = (k : Int) := ⟨a.toNat, by omega⟩
    have hk : k < cJ C := by omega
    have h82 : SR.1 8 0 2 = i32 (cCy C) := (h3.2.1 k hk).1.2.2.1
    have ein : f_X8_in fu (i32 b) 0 (SR.1 8 0 2 - 1) SR = some (bo (decide (0 ≤ b ∧ b ≤ cCy C - 1))) := by
      rw [h82, q_1, q_sub]
      exact s_in (b := 0) (c := cCy C - 1) (by omega) (by omega) (by omega) (by omega) (by omega) (by omega)
    have eout : f_X7_isOutside fu (i32 b) 0 (S.1 1 0 2 - 1) S = some (bo (!decide (0 ≤ b ∧ b ≤ cCy C - 1))) := by
      rw [h2.2.1, q_1, q_sub]
      exact s_isOutside (b := 0) (c := cCy C - 1) (by omega) (by omega) (by omega) (by omega) (by omega) (by omega)
    rw [if_pos e, bxr, boT (decide_eq_true e), ein, eout, b1s, b1s, show ((k : Int)).toNat = k by omega]
    by_cases e1 : 0 ≤ b ∧ b ≤ cCy C - 1
    · rw [decide_eq_true e1, Bool.not_true, boF rfl, boT rfl, s_settingUp h5, h6.2.2.2.2.1]
      cases hb : vB V with
      | true =>
        rw [if_neg (by simp), bxl, boT rfl, m_holdsN (by decide +kernel), b2s, if_pos rfl]
        exact ⟨_, _, _, _, 3, rfl, rfl, rfl, w_eq, (fun v hv => by cases hv), h.mf moF.th⟩
      | false =>
        rw [if_pos rfl, bxr, boF rfl, m_holds0, b2s, if_neg (by decide +kernel), gdt (q_inb (by omega) (by omega) (by omega)), gdt (q_inb (by omega) (by omega) (by omega)), q_nat (by omega) (by omega), show ((k : Int)).toNat = k by omega]
        refine ⟨_, _, _, _, 0, rfl, rfl, rfl, (w_ne (by omega)).trans w_eq, (fun v hv => ?_), ?_⟩
        · cases hv
          rw [w_ne (by omega), (h2.2.2.1 k hk).2.2, (h3.2.1 k hk).2]
        · have hC' : okC (cJ C, cCy C, cS C, cC C, cF C, va_up (cO C) k b, cLs C, cLr C) := ⟨h1.1, h1.2.1, h1.2.2.1, h1.2.2.2.1, fun k' hk' => ⟨(h1.2.2.2.2.1 k' hk').1, by
            show 0 ≤ va_up (cO C) k b k' ∧ va_up (cO C) k b k' < cCy C
            unfold va_up
            split
            · omega
            · exact (h1.2.2.2.2.1 k' hk').2⟩, h1.2.2.2.2.2⟩
          have h6' := h6.mf (moF.th (v := 0))
          refine ⟨(cJ C, cCy C, cS C, cC C, cF C, va_up (cO C) k b, cLs C, cLr C), V, hC', ?_, ?_, okV_idle h4 hb rfl hC', ?_, ?_⟩
          · refine ⟨(w_ne (by omega)).trans h2.1, (w_ne (by omega)).trans h2.2.1, fun k' hk' => ?_, fun k' hk' => ⟨(w_ne (by omega)).trans (h2.2.2.2 k' hk').1, (w_ne (by omega)).trans (h2.2.2.2 k' hk').2⟩⟩
            obtain ⟨g1, g2, g3⟩ := h2.2.2.1 k' hk'
            refine ⟨⟨(w_ne (by omega)).trans g1.1, (w_ne (by omega)).trans g1.2.1, fun p hp => (w_ne (by omega)).trans (g1.2.2.1 p hp), fun q hq => (w_ne (by omega)).trans (g1.2.2.2.1 q hq), fun m hm => (w_ne (by omega)).trans (g1.2.2.2.2 m hm)⟩, ⟨fun p hp => (w_ne (by omega)).trans (g2.1 p hp), (w_ne (by omega)).trans g2.2.1, fun h0 => ⟨fun p hp => (w_ne (by omega)).trans ((g2.2.2 h0).1 p hp), fun u hu => (w_ne (by omega)).trans ((g2.2.2 h0).2 u hu)⟩⟩, ?_⟩
            show (wI S 3 k 9 (i32 b)).1 3 k' 9 = i32 (va_up (cO C) k b k')
            rw [w_ok]
            unfold va_up
            by_cases ek : k' = k
            · rw [if_pos ⟨rfl, ek, rfl⟩, if_pos ek]
            · rw [if_neg (by omega), if_neg ek]; exact g3
          · have h3' := h3.mf (moF.th (v := 0))
            refine ⟨(w_ne (by omega)).trans h3'.1, fun k' hk' => ?_, fun k' hk' => ⟨(w_ne (by omega)).trans (h3'.2.2 k' hk').1, (w_ne (by omega)).trans (h3'.2.2 k' hk').2⟩⟩
            obtain ⟨⟨j0, j1, j2, j3, j4, j5⟩, g3⟩ := h3'.2.1 k' hk'
            refine ⟨⟨j0, (w_ne (by omega)).trans j1, (w_ne (by omega)).trans j2, fun p hp => (w_ne (by omega)).trans (j3 p hp), fun q hq => (w_ne (by omega)).trans (j4 q hq), fun m hm => (w_ne (by omega)).trans (j5 m hm)⟩, ?_⟩
            show (wI (wI SR 8 0 0 0) 24 0 k (i32 b)).1 24 0 k' = i32 (va_up (cO C) k b k')
            rw [w_ok]
            unfold va_up
            by_cases ek : k' = k
            · rw [if_pos ⟨rfl, rfl, ek⟩, if_pos ek]
            · rw [if_neg (by omega), if_neg ek]; exact g3
          · refine kcV_idle (C := C) ?_ h4 hb rfl
            obtain ⟨g1, g2, g3, g4, g5, g6, g7⟩ := h5
            refine ⟨(w_ne (by omega)).trans g1, (w_ne (by omega)).trans g2, (w_ne (by omega)).trans g3, (w_ne (by omega)).trans g4, (w_ne (by omega)).trans g5, fun k' hk' => ⟨(w_ne (by omega)).trans (g6 k' hk').1, (w_ne (by omega)).trans (g6 k' hk').2.1, ?_⟩, fun k' hk' => ⟨(w_ne (by omega)).trans (g7 k' hk').1, fun r hr => (w_ne (by omega)).trans ((g7 k' hk').2 r hr)⟩⟩
            have := (g6 k' hk').2.2
            rw [((h4.2.2.2.2.2.2.2.2.2.2.2.1 hb).2 k' hk').2.2.2] at this ⊢
            exact (w_ne (by omega)).trans this
          · refine moV_idle (C := C) ?_ rfl
            obtain ⟨g1, g2, g3, g4, g5, g6, g7⟩ := h6'
            refine ⟨(w_ne (by omega)).trans g1, (w_ne (by omega)).trans g2, (w_ne (by omega)).trans g3, (w_ne (by omega)).trans g4, (w_ne (by omega)).trans g5, fun k' hk' => ⟨(w_ne (by omega)).trans (g6 k' hk').1, (w_ne (by omega)).trans (g6 k' hk').2.1, ?_⟩, fun k' hk' => ⟨(w_ne (by omega)).trans (g7 k' hk').1, fun i hi => (w_ne (by omega)).trans ((g7 k' hk').2 i hi)⟩⟩
            have := (g6 k' hk').2.2
            rw [((h4.2.2.2.2.2.2.2.2.2.2.2.1 hb).2 k' hk').2.2.2] at this ⊢
            exact (w_ne (by omega)).trans this
    · rw [decide_eq_false e1, Bool.not_false, boF rfl, boT rfl, m_holdsN (by decide +kernel), b2s, if_pos rfl]
      exact ⟨_, _, _, _, 2, rfl, rfl, rfl, w_eq, (fun v hv => by cases hv), h.mf moF.th⟩
  · rw [if_neg e, bxl, boF (decide_eq_false e), m_holdsN (by decide +kernel), b2s, if_pos rfl]
    exact ⟨_, _, _, _, 1, rfl, rfl, rfl, w_eq, (fun v hv => by cases hv), h.mf moF.th⟩
