/-! improve: the class alone. -/
section KI2
variable {fu : Nat} {V : Rn}
def IP (C : Cf) (V : Rn) : Prop := OK C V ∧ vB V = false ∧ ∀ k, k < cJ C → 0 ≤ lef (cS C k) (cC C k) (cCy C)
theorem KS_off {C : Cf} {S S' : Mem} {k : Nat} {b : Int} (h : OK C V) (hb : vB V = false) (hS : KS S C V) (hf : ∀ a b i, ¬ (a = 3 ∧ b = k ∧ i = 9) → S'.1 a b i = S.1 a b i) (h9 : S'.1 3 k 9 = i32 b) : KS S' (setO C k b) V := by
  obtain ⟨h2, h5⟩ := hS
  refine ⟨?_, ?_⟩
  · refine ⟨(hf _ _ _ (by omega)).trans h2.1, (hf _ _ _ (by omega)).trans h2.2.1, fun k' hk' => ?_, fun k' hk' => ⟨(hf _ _ _ (by omega)).trans (h2.2.2.2 k' hk').1, (hf _ _ _ (by omega)).trans (h2.2.2.2 k' hk').2⟩⟩
    obtain ⟨g1, g2, g3⟩ := h2.2.2.1 k' hk'
    refine ⟨⟨(hf _ _ _ (by omega)).trans g1.1, (hf _ _ _ (by omega)).trans g1.2.1, fun p hp => (hf _ _ _ (by omega)).trans (g1.2.2.1 p hp), fun q hq => (hf _ _ _ (by omega)).trans (g1.2.2.2.1 q hq), fun m hm => (hf _ _ _ (by omega)).trans (g1.2.2.2.2 m hm)⟩, ⟨fun p hp => (hf _ _ _ (by omega)).trans (g2.1 p hp), (hf _ _ _ (by omega)).trans g2.2.1, fun h0 => ⟨fun p hp => (hf _ _ _ (by omega)).trans ((g2.2.2 h0).1 p hp), fun u hu => (hf _ _ _ (by omega)).trans ((g2.2.2 h0).2 u hu)⟩⟩, ?_⟩
    show S'.1 3 k' 9 = i32 (upI (cO C) k b k')
    by_cases ek : k' = k
    · subst ek; rw [upI_s]; exact h9
    · rw [upI_n ek, hf _ _ _ (by omega)]; exact g3
  · refine kcV_idle (C := C) ?_ h.2.1 hb rfl
    obtain ⟨g1, g2, g3, g4, g5, g6, g7⟩ := h5
    refine ⟨(hf _ _ _ (by omega)).trans g1, (hf _ _ _ (by omega)).trans g2, (hf _ _ _ (by omega)).trans g3, (hf _ _ _ (by omega)).trans g4, (hf _ _ _ (by omega)).trans g5, fun k' hk' => ⟨(hf _ _ _ (by omega)).trans (g6 k' hk').1, (hf _ _ _ (by omega)).trans (g6 k' hk').2.1, ?_⟩, fun k' hk' => ⟨(hf _ _ _ (by omega)).trans (g7 k' hk').1, fun r hr => (hf _ _ _ (by omega)).trans ((g7 k' hk').2 r hr)⟩⟩
    have := (g6 k' hk').2.2
    rw [((h.2.1.2.2.2.2.2.2.2.2.2.2.2.1 hb).2 k' hk').2.2.2] at this ⊢
    exact (hf _ _ _ (by omega)).trans this
theorem IP.off {C : Cf} (h : IP C V) {k : Nat} {b : Int} (hb : 0 ≤ b ∧ b < cCy C) : IP (setO C k b) V := by
  obtain ⟨h1, h2, h3⟩ := h
  refine ⟨h1.st h2 rfl ⟨h1.1.1, h1.1.2.1, h1.1.2.2.1, h1.1.2.2.2.1, fun k' hk' => ⟨(h1.1.2.2.2.2.1 k' hk').1, ?_⟩, h1.1.2.2.2.2.2⟩ h1.2.2.2, h2, h3⟩
  show 0 ≤ upI (cO C) k b k' ∧ upI (cO C) k b k' < cCy C
  by_cases ek : k' = k
  · subst ek; rw [upI_s]; exact hb
  · rw [upI_n ek]; exact (h1.1.2.2.2.2.1 k' hk').2
theorem i_one {C : Cf} {k : Nat} (hfu : 200 ≤ fu) (h : IP C V) (hk : k < cJ C) : ∃ (C' : Cf) (r : Bool), IP C' V ∧ cJ C' = cJ C ∧ ∀ S, KS S C V → ∃ S', f_X0_improveOffset fu (i32 (k : Int)) S = some (bo r, S') ∧ KS S' C' V := by
  have hcy := h.1.cy
  obtain ⟨n, hn⟩ : ∃ n : Nat, cCy C = (n : Int) := ⟨(cCy C).toNat, by omega⟩
  have hl := bst_lt (oneS C n k) n 0 0 0 n (by omega) (by omega)
  refine ⟨setO C k (bst (oneS C n k) n 0 0 0 : Int), !decide ((bst (oneS C n k) n 0 0 0 : Int) = cO C k), h.off (by omega), rfl, fun S hS => ?_⟩
  obtain ⟨S', s1, s2, s3⟩ := s_imp1 (fu := fu) hfu hn h.1.1 hS.1 h.2.2 hk
  exact ⟨S', s1, KS_off h.1 h.2.1 hS s2 s3⟩
theorem i_round (hfu : 200 ≤ fu) : ∀ (d k : Nat) (acc : Bool) (C : Cf), k + d = cJ C → IP C V → ∃ (C' : Cf) (acc' : Bool), IP C' V ∧ cJ C' = cJ C ∧ ∀ S, KS S C V → ∃ S', (∀ (m : Nat) (K4 : Int32 → Int32 → Mem → Option (Int32 × Mem)) (x2 : Int32), f_X0_improveOffsets_18 fu K4 (m + 1 + d) (bo acc) x2 (i32 (k : Int)) S = K4 (bo acc') (x2 + 1) S') ∧ KS S' C' V := by
  intro d
  induction d with
  | zero =>
    intro k acc C hk h
    have hj := h.1.j
    refine ⟨C, acc, h, rfl, fun S hS => ⟨S, fun m K4 x2 => ?_, hS⟩⟩
    rw [Nat.add_zero, f_X0_improveOffsets_18, hS.1.1, leT (by omega) (by omega) (by omega)]
  | succ d ih =>
    intro k acc C hk h
    have hj := h.1.j
    obtain ⟨C1, r, a1, a2, a3⟩ := i_one (fu := fu) hfu h (k := k) (by omega)
    obtain ⟨C', acc', b1', b2', b3⟩ := ih (k + 1) (acc || r) C1 (by omega) a1
    have e3 : i32 (k : Int) + 1 = i32 ((k + 1 : Nat) : Int) := by rw [q_1, q_add]; rfl
    refine ⟨C', acc', b1', b2'.trans a2, fun S hS => ?_⟩
    obtain ⟨S1, t1, t2⟩ := a3 S hS
    obtain ⟨S', u1, u2⟩ := b3 S1 t2
    refine ⟨S', fun m K4 x2 => ?_, u2⟩
    rw [show m + 1 + (d + 1) = (m + 1 + d) + 1 by omega, f_X0_improveOffsets_18, hS.1.1, leF (by omega) (by omega) (by omega), t1, b2s, bo_or, e3]
    exact u1 m K4 x2
theorem i_rounds (hfu : 200 ≤ fu) : ∀ (d r m : Nat) (acc : Bool) (C : Cf), r + d = 10 → d < m → IP C V → ∃ C' : Cf, IP C' V ∧ ∀ S, KS S C V → ∃ S', f_X0_improveOffsets_4 fu m (bo acc) (i32 (r : Int)) S = f_X0_improveOffsets_49 fu S' ∧ KS S' C' V := by
  intro d
  have q_10 : (10 : Int32) = i32 10 := rfl
  induction d with
  | zero =>
    intro r m acc C hr hm h
    obtain ⟨m, rfl⟩ : ∃ n', m = n' + 1 := ⟨m - 1, by omega⟩
    refine ⟨C, h, fun S hS => ⟨S, ?_, hS⟩⟩
    rw [f_X0_improveOffsets_4, q_10, leT (by omega) (by omega) (by omega)]
  | succ d ih =>
    intro r m acc C hr hm h
    obtain ⟨m, rfl⟩ : ∃ n', m = n' + 1 := ⟨m - 1, by omega⟩
    cases acc with
    | false =>
      refine ⟨C, h, fun S hS => ⟨S, ?_, hS⟩⟩
      rw [f_X0_improveOffsets_4, q_10, leF (by omega) (by omega) (by omega), boF rfl]
    | true =>
      have hj := h.1.j
      obtain ⟨C1, acc1, a1, a2, a3⟩ := i_round (fu := fu) hfu (cJ C - 1) 1 false C (by omega) h
      obtain ⟨C', b1', b2'⟩ := ih (r + 1) m acc1 C1 (by omega) (by omega) a1
      have e3 : i32 (r : Int) + 1 = i32 ((r + 1 : Nat) : Int) := by rw [q_1, q_add]; rfl
      refine ⟨C', b1', fun S hS => ?_⟩
      obtain ⟨S1, t1, t2⟩ := a3 S hS
      obtain ⟨S', u1, u2⟩ := b2' S1 t2
      obtain ⟨f, hf⟩ : ∃ f, fu = f + 1 + (cJ C - 1) := ⟨fu - 1 - (cJ C - 1), by omega⟩
      have a1' := t1 f (f_X0_improveOffsets_4 fu m) (i32 (r : Int))
      rw [← hf, e3] at a1'
      refine ⟨S', ?_, u2⟩
      rw [f_X0_improveOffsets_4, q_10, leF (by omega) (by omega) (by omega), boT rfl]
      exact a1'.trans u1
theorem d_improve {C : Cf} (hfu : 200 ≤ fu) (h : OK C V) : DT (fx_X7_improve fu) C V (PT C V) := by
  by_cases e5 : plA C (cJ C) 0 = true
  · cases hb : vB V with
    | true =>
      refine dt_throw 2 (by omega) h (fun S hS => ?_)
      unfold fx_X7_improve
      rw [s_checkPlans (by omega) h.1 hS.1, if_pos e5, bxr, s_settingUp hS.2, hb, if_neg (by simp), bxl]
    | false =>
      have h0 : ∀ k, k < cJ C → 0 ≤ lef (cS C k) (cC C k) (cCy C) := fun k hk => plA_all (cJ C) 0 e5 k (by omega) (by omega)
      obtain ⟨C', b1', b2'⟩ := i_rounds (fu := fu) hfu 10 0 fu true C (by omega) (by omega) ⟨h, hb, h0⟩
      have gcy := b1'.1.cy
      obtain ⟨n, hn⟩ : ∃ n : Nat, cCy C' = (n : Int) := ⟨(cCy C').toNat, by omega⟩
      have c1 := cntF_b (fun t => aF C' (cO C') (-1) t && aF C' (cO C') (-1) t) n 0
      have c2 := cntF_b (fun t => aB C' (cO C') (-1) t && aB C' (cO C') (-1) t) n 0
      refine ⟨.inr (i32 (cntF (fun t => aF C' (cO C') (-1) t && aF C' (cO C') (-1) t) n 0 + cntF (fun t => aB C' (cO C') (-1) t && aB C' (cO C') (-1) t) n 0)), C', V, b1'.1, Or.inr ⟨_, rfl, by omega, by omega⟩, fun S hS => ?_⟩
      obtain ⟨S', u1, u2⟩ := b2' S hS
      obtain ⟨S2, a1, a2, a3⟩ := s_common (fu := fu) (w := -1) hfu b1'.1.1 u2.1 b1'.2.2 hn (by omega)
      have hc := s_cnt2 (fu := fu) (show n ≤ 128 by omega) a3 a3
      have u1' : f_X0_improveOffsets_4 fu fu 1 0 S = _ := u1
      refine ⟨S2, ?_, u2.same a2⟩
      unfold fx_X7_improve f_X0_improveOffsets
      rw [s_checkPlans (by omega) h.1 hS.1, if_pos e5, bxr, s_settingUp hS.2, hb, if_pos rfl, bxr, u1']
      unfold f_X0_improveOffsets_49
      rw [q_m1, a1, b2s, hc, b1s, b2s]
  · refine dt_throw 2 (by omega) h (fun S hS => ?_)
    unfold fx_X7_improve
    rw [s_checkPlans (by omega) h.1 hS.1, if_neg e5, bxl]
end KI2
