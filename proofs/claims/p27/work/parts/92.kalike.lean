/-! The law's two of a kind: asked in turn, they answer alike. -/
section AL
variable {fu : Nat} {S S2 : Mem} {C : Cf} {V : Rn}
theorem al_78 (hfu : 100 ≤ fu) (h : OK C V) (hS : KS S C V) (hT : KS S2 C V) : ∀ d k n : Nat, k + d = cJ C → d < n → f_L_areAlike_78 fu n 1 (i32 (k : Int)) S S2 = some (1, S, S2) := by
  have hj := h.j
  intro d
  induction d with
  | zero =>
    intro k n hk hn
    obtain ⟨n, rfl⟩ : ∃ n', n = n' + 1 := ⟨n - 1, by omega⟩
    rw [f_L_areAlike_78, a_junctions hS, b1s, leT (by omega) (by omega) (by omega)]
    unfold f_L_areAlike_184
    rw [nb_1]
  | succ d ih =>
    intro k n hk hn
    obtain ⟨n, rfl⟩ : ∃ n', n = n' + 1 := ⟨n - 1, by omega⟩
    have hkk : k < cJ C := by omega
    have hm := (mny_le (cS C k)).1
    have e3 : i32 (k : Int) + 1 = i32 ((k + 1 : Nat) : Int) := by rw [q_1, q_add]; rfl
    have g1 : f_L_green fu (i32 (k : Int)) 0 S = _ := g_green (p := 0) h hS hkk (by omega)
    have g2 : f_L_green fu (i32 (k : Int)) 0 S2 = _ := g_green (p := 0) h hT hkk (by omega)
    have c1 : f_X7_clearing fu (i32 (k : Int)) 0 S = _ := a_clearing (p := 0) h hS hkk (by omega)
    have c2 : f_X7_clearing fu (i32 (k : Int)) 0 S2 = _ := a_clearing (p := 0) h hT hkk (by omega)
    rw [f_L_areAlike_78, a_junctions hS, b1s, leF (by omega) (by omega) (by omega), if_neg (by decide +kernel), a_hasPlan h hS hkk, b1s, a_hasPlan h hT hkk, b1s, if_pos rfl, a_offset h hS hkk, b1s, a_offset h hT hkk, b1s, if_pos rfl, a_queue h hS hkk, b1s, a_queue h hT hkk, b1s, if_pos rfl, g_phaseNow hfu h hS hkk, b1s, g_phaseNow hfu h hT hkk, b1s, if_pos rfl, g1, b1s, g2, b1s, if_pos rfl, c1, b1s, c2, b1s, if_pos rfl]
    unfold f_L_areAlike_177
    rw [e3]
    exact ih (k + 1) n (by omega) (by omega)
theorem g_alike (hfu : 200 ≤ fu) (h : OK C V) (hS : KS S C V) (hT : KS S2 C V) : ∃ S' S2' : Mem, f_L_areAlike fu S S2 = some (1, S', S2') ∧ S'.1 = S.1 ∧ S2'.1 = S2.1 := by
  have hj := h.j
  obtain ⟨A1, a1, a2⟩ := g_band (x := 1) hfu h hS true rfl
  obtain ⟨A2, b1, b2⟩ := g_band (x := 1) hfu h hT true rfl
  obtain ⟨A3, c1, c2⟩ := g_band (x := 0) hfu h (hS.same a2) false rfl
  obtain ⟨A4, d1, d2⟩ := g_band (x := 0) hfu h (hT.same b2) false rfl
  have hl : f_L_areAlike_78 fu 7 1 0 A3 A4 = some (1, A3, A4) := al_78 (by omega) h (hS.same (c2.trans a2)) (hT.same (d2.trans b2)) (cJ C) 0 7 (by omega) (by omega)
  refine ⟨A3, A4, ?_, c2.trans a2, d2.trans b2⟩
  unfold f_L_areAlike f_L_areAlike_75
  rw [a_junctions hS, b1s, a_junctions hT, b1s, if_pos rfl, a_clock hS, b1s, a_clock hT, b1s, if_pos rfl, a_come hS, b1s, a_come hT, b1s, if_pos rfl, a_through hS, b1s, a_through hT, b1s, if_pos rfl, a1, b2s, b1, b2s, if_pos rfl, c1, b2s, d1, b2s, if_pos rfl, hl]
end AL
