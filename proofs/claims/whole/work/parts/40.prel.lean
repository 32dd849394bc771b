/-! THE RELATION of the two memories: settings C, the running V. -/
abbrev Cf : Type := Nat × Int × (Nat → Nat → Nat) × (Nat → Nat → Int) × (Nat → Nat → Int) × (Nat → Int) × (Nat → Int) × (Nat → Int)
abbrev cJ (C : Cf) : Nat := C.1
abbrev cCy (C : Cf) : Int := C.2.1
abbrev cS (C : Cf) : Nat → Nat → Nat := C.2.2.1
abbrev cC (C : Cf) : Nat → Nat → Int := C.2.2.2.1
abbrev cF (C : Cf) : Nat → Nat → Int := C.2.2.2.2.1
abbrev cO (C : Cf) : Nat → Int := C.2.2.2.2.2.1
abbrev cLs (C : Cf) : Nat → Int := C.2.2.2.2.2.2.1
abbrev cLr (C : Cf) : Nat → Int := C.2.2.2.2.2.2.2
abbrev Bus : Type := Int × Nat × Nat × Int
abbrev Rn : Type := Bool × Int × Int × Int × Int × (Nat → Int) × (Nat → Int) × (Nat → List Int) × (Nat → Option Bus)
abbrev vB (V : Rn) : Bool := V.1
abbrev vK (V : Rn) : Int := V.2.1
abbrev vA (V : Rn) : Int := V.2.2.1
abbrev vM (V : Rn) : Int := V.2.2.2.1
abbrev vT (V : Rn) : Int := V.2.2.2.2.1
abbrev vQ (V : Rn) : Nat → Int := V.2.2.2.2.2.1
abbrev vR (V : Rn) : Nat → Int := V.2.2.2.2.2.2.1
abbrev vW (V : Rn) : Nat → List Int := V.2.2.2.2.2.2.2.1
abbrev vU (V : Rn) : Nat → Option Bus := V.2.2.2.2.2.2.2.2
def okC (C : Cf) : Prop := 2 ≤ cJ C ∧ cJ C ≤ 5 ∧ 30 ≤ cCy C ∧ cCy C ≤ 90 ∧ (∀ k, k < cJ C → okJ (cS C k) (cC C k) (cF C k) (cCy C) ∧ 0 ≤ cO C k ∧ cO C k < cCy C) ∧ ∀ k, k + 1 < cJ C → 1 ≤ cLs C k ∧ cLs C k ≤ 60 ∧ 1 ≤ cLr C k ∧ cLr C k ≤ 40
def kcC (S : Mem) (C : Cf) : Prop := S.1 1 0 1 = i32 (cJ C : Int) ∧ S.1 1 0 2 = i32 (cCy C) ∧ (∀ k, k < cJ C → SJ S k (cS C k) (cC C k) (cF C k) (cCy C) ∧ PLN S k (cS C k) (cC C k) (cF C k) (cCy C) ∧ S.1 3 k 9 = i32 (cO C k)) ∧ ∀ k, k + 1 < cJ C → S.1 4 k 1 = i32 (cLs C k) ∧ S.1 4 k 2 = i32 (cLr C k)
def moC (S : Mem) (C : Cf) : Prop := S.1 8 0 1 = i32 (cJ C : Int) ∧ (∀ k, k < cJ C → SM S k (cS C k) (cC C k) (cF C k) (cCy C) ∧ S.1 24 0 k = i32 (cO C k)) ∧ ∀ k, k + 1 < cJ C → S.1 25 0 k = i32 (cLs C k) ∧ S.1 26 0 k = i32 (cLr C k)
/-- how many vehicles of a link have their end at a place of the ring -/
def cnt (w : List Int) (r : Nat) : Nat := w.countP (fun e => decide (e % 61 = (r : Int)))
def okV (C : Cf) (V : Rn) : Prop := 0 ≤ vK V ∧ vK V ≤ 7200 ∧ 0 ≤ vA V ∧ vA V < 3600 ∧ 0 ≤ vM V ∧ vM V ≤ vK V ∧ 0 ≤ vT V ∧ vT V ≤ vK V ∧ (∀ k, k < cJ C → 0 ≤ vQ V k ∧ vQ V k ≤ 7200 ∧ 0 ≤ vR V k ∧ vR V k ≤ 2) ∧ vQ V 0 ≤ vM V ∧ (∀ k, k + 1 < cJ C → ((vW V k).length : Int) + vQ V (k + 1) ≤ cLr C k ∧ (∀ e, e ∈ vW V k → vK V ≤ e ∧ e < vK V + cLs C k) ∧ (vW V k).Pairwise (· < ·)) ∧ (vB V = false → vK V = 0 ∧ ∀ k, k < cJ C → vQ V k = 0 ∧ vR V k = 0 ∧ vW V k = [] ∧ vU V k = none) ∧ ∀ k, k < cJ C → ∀ b, vU V k = some b → 0 ≤ lef (cS C k) (cC C k) (cCy C) ∧ b.1 * cCy C + cO C k ≤ vK V ∧ -1 ≤ b.1 ∧ b.1 ≤ 7200 ∧ b.2.1 < mny (cS C k) ∧ b.2.2.1 < mny (cS C k) ∧ 0 ≤ b.2.2.2 ∧ b.2.2.2 ≤ 5 ∧ (b.2.2.2 ≠ 0 → b.2.2.1 ≠ b.2.1 ∧ b.2.2.2 ≤ grn (cS C k) (cC C k) (cF C k) (cCy C) b.2.2.1 - lst (cS C k) b.2.2.1)
def kcU (S : Mem) (k : Nat) (cy o : Int) (u : Option Bus) : Prop := match u with
  | none => S.1 3 k 13 = i32 0
  | some b => S.1 3 k 13 = i32 (b.1 * cy + o + cy) ∧ S.1 3 k 15 = i32 (b.2.1 : Int) ∧ S.1 3 k 16 = i32 b.2.2.2 ∧ ∃ a : Int, S.1 3 k 14 = i32 a ∧ -1 ≤ a ∧ a < 4 ∧ (b.2.2.2 ≠ 0 → a = b.2.2.1)
def moU (S : Mem) (k : Nat) (u : Option Bus) : Prop := match u with
  | none => S.1 34 0 k = 0
  | some b => S.1 34 0 k = 1 ∧ S.1 35 0 k = i32 b.1 ∧ S.1 36 0 k = i32 (b.2.1 : Int) ∧ S.1 37 0 k = i32 (b.2.2.1 : Int) ∧ S.1 38 0 k = i32 b.2.2.2
def kcV (S : Mem) (C : Cf) (V : Rn) : Prop := S.1 6 0 1 = i32 (vK V) ∧ S.1 6 0 2 = i32 (vA V) ∧ S.1 6 0 3 = i32 (vM V) ∧ S.1 6 0 4 = i32 (vT V) ∧ S.1 6 0 5 = bo (vB V) ∧ (∀ k, k < cJ C → S.1 3 k 11 = i32 (vQ V k) ∧ S.1 3 k 12 = i32 (vR V k) ∧ kcU S k (cCy C) (cO C k) (vU V k)) ∧ ∀ k, k + 1 < cJ C → S.1 4 k 3 = i32 ((vW V k).length : Int) ∧ ∀ r, r < 61 → S.1 17 k r = i32 (cnt (vW V k) r : Int)
def moV (S : Mem) (C : Cf) (V : Rn) : Prop := S.1 8 0 14 = i32 (vK V) ∧ S.1 8 0 15 = i32 (vA V) ∧ S.1 8 0 16 = i32 (vM V) ∧ S.1 8 0 17 = i32 (vT V) ∧ S.1 8 0 3 = bo (vB V) ∧ (∀ k, k < cJ C → S.1 30 0 k = i32 (vQ V k) ∧ S.1 31 0 k = i32 (vR V k) ∧ moU S k (vU V k)) ∧ ∀ k, k + 1 < cJ C → S.1 32 0 k = i32 ((vW V k).length : Int) ∧ ∀ i, (h : i < (vW V k).length) → S.1 33 0 (40 * k + i) = i32 ((vW V k)[i])
def RR (S SR : Mem) : Prop := ∃ (C : Cf) (V : Rn), okC C ∧ kcC S C ∧ moC SR C ∧ okV C V ∧ kcV S C V ∧ moV SR C V
/-- what the model may change without a trace -/
def moF (S S' : Mem) : Prop := (∀ a b i : Nat, (b ≠ 0 ∨ ((a ≠ 8 ∨ i ≠ 0) ∧ a ≠ 27 ∧ a ≠ 28 ∧ a ≠ 29)) → S'.1 a b i = S.1 a b i) ∧ S'.2 = S.2
theorem moF.rf {S : Mem} : moF S S := ⟨fun _ _ _ _ => rfl, rfl⟩
theorem moF.trans {S S' S2 : Mem} (h : moF S S') (h' : moF S' S2) : moF S S2 := ⟨fun a b i hq => (h'.1 a b i hq).trans (h.1 a b i hq), h'.2.trans h.2⟩
theorem moF.th {S : Mem} {v : Int32} : moF S (wI S 8 0 0 v) := ⟨fun a b i hq => w_ne (by omega), rfl⟩
theorem moF.pl {k : Nat} {S S' : Mem} (h : frM k S S') : moF S S' := ⟨fun a b i hq => h.1 a b i (by omega), h.2⟩
theorem SM.mf {S S' : Mem} {k : Nat} {s : Nat → Nat} {c f : Nat → Int} {cy : Int} (h : SM S k s c f cy) (hf : moF S S') : SM S' k s c f cy := by
  obtain ⟨h0, h1, h2, h3, h4, h5⟩ := h
  exact ⟨h0, (hf.1 _ _ _ (by omega)).trans h1, (hf.1 _ _ _ (by omega)).trans h2, fun p hp => (hf.1 _ _ _ (by omega)).trans (h3 p hp), fun q hq => (hf.1 _ _ _ (by omega)).trans (h4 q hq), fun m hm => (hf.1 _ _ _ (by omega)).trans (h5 m hm)⟩
theorem moC.mf {S S' : Mem} {C : Cf} (h : moC S C) (hf : moF S S') : moC S' C := by
  obtain ⟨h1, h2, h3⟩ := h
  exact ⟨(hf.1 _ _ _ (by omega)).trans h1, fun k hk => ⟨(h2 k hk).1.mf hf, (hf.1 _ _ _ (by omega)).trans (h2 k hk).2⟩, fun k hk => ⟨(hf.1 _ _ _ (by omega)).trans (h3 k hk).1, (hf.1 _ _ _ (by omega)).trans (h3 k hk).2⟩⟩
theorem moU.mf {S S' : Mem} {k : Nat} {u : Option Bus} (h : moU S k u) (hf : moF S S') : moU S' k u := by
  cases u with
  | none => exact (hf.1 34 0 k (by omega)).trans h
  | some b =>
    obtain ⟨h1, h2, h3, h4, h5⟩ := h
    exact ⟨(hf.1 _ _ _ (by omega)).trans h1, (hf.1 _ _ _ (by omega)).trans h2, (hf.1 _ _ _ (by omega)).trans h3, (hf.1 _ _ _ (by omega)).trans h4, (hf.1 _ _ _ (by omega)).trans h5⟩
theorem moV.mf {S S' : Mem} {C : Cf} {V : Rn} (h : moV S C V) (hf : moF S S') : moV S' C V := by
  obtain ⟨h1, h2, h3, h4, h5, h6, h7⟩ := h
  exact ⟨(hf.1 _ _ _ (by omega)).trans h1, (hf.1 _ _ _ (by omega)).trans h2, (hf.1 _ _ _ (by omega)).trans h3, (hf.1 _ _ _ (by omega)).trans h4, (hf.1 _ _ _ (by omega)).trans h5, fun k hk => ⟨(hf.1 _ _ _ (by omega)).trans (h6 k hk).1, (hf.1 _ _ _ (by omega)).trans (h6 k hk).2.1, (h6 k hk).2.2.mf hf⟩, fun k hk => ⟨(hf.1 _ _ _ (by omega)).trans (h7 k hk).1, fun i hi => (hf.1 _ _ _ (by omega)).trans ((h7 k hk).2 i hi)⟩⟩
/-- the model's answer that leaves a trace of nothing -/
theorem RR.mf {S SR SR' : Mem} (h : RR S SR) (hf : moF SR SR') : RR S SR' := by
  obtain ⟨C, V, h1, h2, h3, h4, h5, h6⟩ := h
  exact ⟨C, V, h1, h2, h3.mf hf, h4, h5, h6.mf hf⟩
/-- the class's sets of seconds leave no trace -/
theorem RR.cf {S S' SR : Mem} (h : RR S SR) (hf : S'.1 = S.1) : RR S' SR := by
  obtain ⟨C, V, h1, h2, h3, h4, h5, h6⟩ := h
  refine ⟨C, V, h1, ?_, h3, h4, ?_, h6⟩
  · unfold kcC SJ PLN at *; rw [hf]; exact h2
  · unfold kcV at *
    rw [hf]
    obtain ⟨g1, g2, g3, g4, g5, g6, g7⟩ := h5
    refine ⟨g1, g2, g3, g4, g5, fun k hk => ⟨(g6 k hk).1, (g6 k hk).2.1, ?_⟩, g7⟩
    have := (g6 k hk).2.2
    unfold kcU at *
    rw [hf]
    exact this
section OPS
variable {fu : Nat} {S SR : Mem} {C : Cf} {V : Rn}
theorem s_at {a : Int} (hj : cJ C ≤ 5) (h : S.1 1 0 1 = i32 (cJ C : Int)) (ha : -2147483648 ≤ a ∧ a < 2147483648) : fx_X1_at fu (i32 a) S = if 0 ≤ a ∧ a < cJ C then some (.inr a.toNat) else some (.inl 3) := by
  unfold fx_X1_at fx_X1_at_30
  rw [q_0, h]
  by_cases h1 : a < 0
  · rw [ltT h1 (by omega) (by omega), if_neg (by omega)]
  · rw [ltF (by omega) (by omega) (by omega)]
    by_cases h2 : (cJ C : Int) ≤ a
    · rw [leT h2 (by omega) (by omega), if_neg (by omega)]
    · rw [leF (by omega) (by omega) (by omega), nI_i, leF (by omega) (by omega) (by omega), gdt (q_inb (by omega) (by omega) (by omega)), gdt (q_inb (by omega) (by omega) (by omega)), q_nat (by omega) (by omega), if_pos (by omega)]
theorem s_at' {k : Nat} (hj : cJ C ≤ 5) (h : S.1 1 0 1 = i32 (cJ C : Int)) (hk : k < cJ C) : f_X1_at fu (i32 (k : Int)) S = some k := by
  unfold f_X1_at
  rw [q_0, h, ltF (by omega) (by omega) (by omega), leF (by omega) (by omega) (by omega), nI_i, leF (by omega) (by omega) (by omega), gdt (q_inb (by omega) (by omega) (by omega)), gdt (q_inb (by omega) (by omega) (by omega)), q_nat (by omega) (by omega), show ((k : Int)).toNat = k by omega]
theorem m_isJ {a : Int} (hj : 2 ≤ cJ C ∧ cJ C ≤ 5) (h : SR.1 8 0 1 = i32 (cJ C : Int)) (ha : -2147483648 ≤ a ∧ a < 2147483648) : f_X8_isJunction fu (i32 a) SR = some (bo (decide (0 ≤ a ∧ a < cJ C))) := by
  unfold f_X8_isJunction
  rw [h, q_0, q_1, q_sub, s_in (by omega) (by omega) (by omega) (by omega) (by omega) (by omega), b1s, nb_bo]
  congr 2
  exact decide_eq_decide.mpr (by omega)
theorem m_isL {a : Int} (hj : 2 ≤ cJ C ∧ cJ C ≤ 5) (h : SR.1 8 0 1 = i32 (cJ C : Int)) (ha : -2147483648 ≤ a ∧ a < 2147483648) : f_X8_isLink fu (i32 a) SR = some (bo (decide (0 ≤ a ∧ a + 1 < cJ C))) := by
  unfold f_X8_isLink
  rw [h, q_0, q_2, q_sub, s_in (by omega) (by omega) (by omega) (by omega) (by omega) (by omega), b1s, nb_bo]
  congr 2
  exact decide_eq_decide.mpr (by omega)
theorem m_isM {a : Int} (ha : -2147483648 ≤ a ∧ a < 2147483648) : f_X8_isMovement fu (i32 a) SR = some (bo (decide (0 ≤ a ∧ a < 4))) := by
  unfold f_X8_isMovement
  rw [q_0, q_3, s_in (by omega) (by omega) (by omega) (by omega) (by omega) (by omega), b1s, nb_bo]
  congr 2
  exact decide_eq_decide.mpr (by omega)
theorem m_holds0 : f_X8_holds fu 0 SR = some (1, wI SR 8 0 0 0) := by
  unfold f_X8_holds f_X8_holds_14
  rw [if_pos rfl, nb_1]
theorem m_holdsN {x : Int32} (h : x ≠ 0) : f_X8_holds fu x SR = some (0, wI SR 8 0 0 x) := by
  unfold f_X8_holds f_X8_holds_14
  rw [if_neg h, nb_0]
end OPS
theorem sim_junctions (fu : Nat) : Sim_junctions fu RR := by
  intro S SR h
  have h' := h
  obtain ⟨C, V, h1, h2, h3, h4, h5, h6⟩ := h'
  refine ⟨i32 (cJ C : Int), wI SR 8 0 0 0, ?_, ?_, h.mf moF.th⟩
  · unfold f_X7_junctions; rw [h2.1]
  · unfold f_X8_junctions; rw [w_ne (by omega), h3.1]
theorem sim_clock (fu : Nat) : Sim_clock fu RR := by
  intro S SR h
  have h' := h
  obtain ⟨C, V, h1, h2, h3, h4, h5, h6⟩ := h'
  refine ⟨i32 (vK V), wI SR 8 0 0 0, ?_, ?_, h.mf moF.th⟩
  · unfold f_X7_clock; rw [h5.1]
  · unfold f_X8_clock; rw [w_ne (by omega), h6.1]
theorem sim_come (fu : Nat) : Sim_come fu RR := by
  intro S SR h
  have h' := h
  obtain ⟨C, V, h1, h2, h3, h4, h5, h6⟩ := h'
  refine ⟨i32 (vM V), wI SR 8 0 0 0, ?_, ?_, h.mf moF.th⟩
  · unfold f_X7_come; rw [h5.2.2.1]
  · unfold f_X8_come; rw [w_ne (by omega), h6.2.2.1]
theorem sim_through (fu : Nat) : Sim_through fu RR := by
  intro S SR h
  have h' := h
  obtain ⟨C, V, h1, h2, h3, h4, h5, h6⟩ := h'
  refine ⟨i32 (vT V), wI SR 8 0 0 0, ?_, ?_, h.mf moF.th⟩
  · unfold f_X7_through; rw [h5.2.2.2.1]
  · unfold f_X8_through; rw [w_ne (by omega), h6.2.2.2.1]
theorem sim_offset (fu : Nat) : Sim_offset fu RR := by
  intro S SR x h
  have h' := h
  obtain ⟨C, V, h1, h2, h3, h4, h5, h6⟩ := h'
  have hx := q_rng x
  rw [← q_self x]
  generalize x.toInt = a at *
  have hj : 2 ≤ cJ C ∧ cJ C ≤ 5 := ⟨h1.1, h1.2.1⟩
  unfold fx_X7_offset f_X8_offset f_X8_offset_14 f_X8_offset_30
  rw [s_at hj.2 h2.1 hx, m_isJ hj h3.1 hx, b1s]
  by_cases e : 0 ≤ a ∧ a < cJ C
  · obtain ⟨k, rfl⟩ : ∃ k : Nat, a = (k : Int) := ⟨a.toNat, by omega⟩
    rw [if_pos e, bxr, decide_eq_true e, boT rfl, m_holds0, b2s, if_neg (by decide +kernel), gdt (q_inb (by omega) (by omega) (by omega)), q_nat (by omega) (by omega), show ((k : Int)).toNat = k by omega]
    refine ⟨_, _, _, 0, rfl, rfl, rfl, w_eq, fun v hv => ?_, h.mf moF.th⟩
    cases hv
    rw [w_ne (by omega), (h2.2.2.1 k (by omega)).2.2, (h3.2.1 k (by omega)).2]
  · rw [if_neg e, bxl, decide_eq_false e, boF rfl, m_holdsN (by decide +kernel), b2s, if_pos rfl]
    exact ⟨_, _, _, 1, rfl, rfl, rfl, w_eq, (fun v hv => by cases hv), h.mf moF.th⟩
theorem sim_queue (fu : Nat) : Sim_queue fu RR := by
  intro S SR x h
  have h' := h
  obtain ⟨C, V, h1, h2, h3, h4, h5, h6⟩ := h'
  have hx := q_rng x
  rw [← q_self x]
  generalize x.toInt = a at *
  have hj : 2 ≤ cJ C ∧ cJ C ≤ 5 := ⟨h1.1, h1.2.1⟩
  unfold fx_X7_queue f_X8_queue f_X8_queue_14 f_X8_queue_30
  rw [s_at hj.2 h2.1 hx, m_isJ hj h3.1 hx, b1s]
  by_cases e : 0 ≤ a ∧ a < cJ C
  · obtain ⟨k, rfl⟩ : ∃ k : Nat, a = (k : Int) := ⟨a.toNat, by omega⟩
    rw [if_pos e, bxr, decide_eq_true e, boT rfl, m_holds0, b2s, if_neg (by decide +kernel), gdt (q_inb (by omega) (by omega) (by omega)), q_nat (by omega) (by omega), show ((k : Int)).toNat = k by omega]
    refine ⟨_, _, _, 0, rfl, rfl, rfl, w_eq, fun v hv => ?_, h.mf moF.th⟩
    cases hv
    rw [w_ne (by omega), (h5.2.2.2.2.2.1 k (by omega)).1, (h6.2.2.2.2.2.1 k (by omega)).1]
  · rw [if_neg e, bxl, decide_eq_false e, boF rfl, m_holdsN (by decide +kernel), b2s, if_pos rfl]
    exact ⟨_, _, _, 1, rfl, rfl, rfl, w_eq, (fun v hv => by cases hv), h.mf moF.th⟩
