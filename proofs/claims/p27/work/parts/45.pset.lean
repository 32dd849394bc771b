/-! Setting up. -/
def frJ (k : Nat) (S S' : Mem) : Prop := (∀ a b i : Nat, (b ≠ k ∨ (a ≠ 11 ∧ a ≠ 12 ∧ a ≠ 13 ∧ a ≠ 14 ∧ a ≠ 15 ∧ a ≠ 16 ∧ (a ≠ 3 ∨ (i ≠ 7 ∧ i ≠ 10)))) → S'.1 a b i = S.1 a b i) ∧ S'.2 = S.2
theorem frJ.trans {k : Nat} {S S' S2 : Mem} (h : frJ k S S') (h' : frJ k S' S2) : frJ k S S2 := ⟨fun a b i hq => (h'.1 a b i hq).trans (h.1 a b i hq), h'.2.trans h.2⟩
theorem frJ.pl {k : Nat} {S S' : Mem} (h : frP k S S') : frJ k S S' := ⟨fun a b i hq => h.1 a b i (by omega), h.2⟩
theorem frJ.w {k c j : Nat} {v : Int32} {S : Mem} (h : c = 11 ∨ c = 12 ∨ c = 13 ∨ (c = 3 ∧ j = 7)) : frJ k S (wI S c k j v) := ⟨fun a b i hq => w_ne (by omega), rfl⟩
theorem SJ.fj {S S' : Mem} {k k' : Nat} {s : Nat → Nat} {c f : Nat → Int} {cy : Int} (h : SJ S k' s c f cy) (hf : frJ k S S') (hk : k' ≠ k) : SJ S' k' s c f cy := by
  obtain ⟨h1, h2, h3, h4, h5⟩ := h
  exact ⟨(hf.1 _ _ _ (by omega)).trans h1, (hf.1 _ _ _ (by omega)).trans h2, fun p hp => (hf.1 _ _ _ (by omega)).trans (h3 p hp), fun q hq => (hf.1 _ _ _ (by omega)).trans (h4 q hq), fun m hm => (hf.1 _ _ _ (by omega)).trans (h5 m hm)⟩
theorem PLN.fj {S S' : Mem} {k k' : Nat} {s : Nat → Nat} {c f : Nat → Int} {cy : Int} (h : PLN S k' s c f cy) (hf : frJ k S S') (hk : k' ≠ k) : PLN S' k' s c f cy := by
  obtain ⟨h1, h2, h3⟩ := h
  exact ⟨fun p hp => (hf.1 _ _ _ (by omega)).trans (h1 p hp), (hf.1 _ _ _ (by omega)).trans h2, fun h0 => ⟨fun p hp => (hf.1 _ _ _ (by omega)).trans ((h3 h0).1 p hp), fun u hu => (hf.1 _ _ _ (by omega)).trans ((h3 h0).2 u hu)⟩⟩
theorem kcU.fj {S S' : Mem} {k k' : Nat} {cy o : Int} {u : Option Bus} (h : kcU S k' cy o u) (hf : frJ k S S') : kcU S' k' cy o u := by
  cases u with
  | none => exact (hf.1 3 k' 13 (by omega)).trans h
  | some b =>
    obtain ⟨h1, h2, h3, a, h4, h5⟩ := h
    exact ⟨(hf.1 _ _ _ (by omega)).trans h1, (hf.1 _ _ _ (by omega)).trans h2, (hf.1 _ _ _ (by omega)).trans h3, a, (hf.1 _ _ _ (by omega)).trans h4, h5⟩
theorem kcV.fj {S S' : Mem} {k : Nat} {C : Cf} {V : Rn} (h : kcV S C V) (hf : frJ k S S') : kcV S' C V := by
  obtain ⟨h1, h2, h3, h4, h5, h6, h7⟩ := h
  exact ⟨(hf.1 _ _ _ (by omega)).trans h1, (hf.1 _ _ _ (by omega)).trans h2, (hf.1 _ _ _ (by omega)).trans h3, (hf.1 _ _ _ (by omega)).trans h4, (hf.1 _ _ _ (by omega)).trans h5, fun k' hk => ⟨(hf.1 _ _ _ (by omega)).trans (h6 k' hk).1, (hf.1 _ _ _ (by omega)).trans (h6 k' hk).2.1, (h6 k' hk).2.2.fj hf⟩, fun k' hk => ⟨(hf.1 _ _ _ (by omega)).trans (h7 k' hk).1, fun r hr => (hf.1 _ _ _ (by omega)).trans ((h7 k' hk).2 r hr)⟩⟩
/-- nothing runs: other settings do not matter to what runs -/
theorem okV_idle {C C' : Cf} {V : Rn} (h : okV C V) (hb : vB V = false) (hj : cJ C' = cJ C) (hC : okC C') : okV C' V := by
  obtain ⟨g1, g2, g3, g4, g5, g6, g7, g8, g9, g10, g11, g12, g13⟩ := h
  obtain ⟨i1, i2⟩ := g12 hb
  refine ⟨g1, g2, g3, g4, g5, g6, g7, g8, fun k hk => g9 k (by omega), g10, fun k hk => ?_, fun _ => ⟨i1, fun k hk => i2 k (by omega)⟩, fun k hk b hbk => ?_⟩
  · obtain ⟨e1, -, e3, -⟩ := i2 k (by omega)
    obtain ⟨e1', -, -, -⟩ := i2 (k + 1) (by omega)
    have := hC.2.2.2.2.2 k hk
    rw [e3, e1']
    refine ⟨by simp; omega, fun e he => absurd he List.not_mem_nil, List.Pairwise.nil⟩
  · rw [(i2 k (by omega)).2.2.2] at hbk
    cases hbk
theorem kcV_idle {S : Mem} {C C' : Cf} {V : Rn} (h : kcV S C V) (ho : okV C V) (hb : vB V = false) (hj : cJ C' = cJ C) : kcV S C' V := by
  obtain ⟨g1, g2, g3, g4, g5, g6, g7⟩ := h
  have hi := (ho.2.2.2.2.2.2.2.2.2.2.2.1 hb).2
  refine ⟨g1, g2, g3, g4, g5, fun k hk => ⟨(g6 k (by omega)).1, (g6 k (by omega)).2.1, ?_⟩, fun k hk => g7 k (by omega)⟩
  have := (g6 k (by omega)).2.2
  rw [(hi k (by omega)).2.2.2] at this ⊢
  exact this
section ST
variable {fu : Nat} {S SR : Mem} {C : Cf} {V : Rn}
theorem s_settingUp (h : kcV S C V) : fx_X7_checkSettingUp fu S = if vB V = false then some (.inr ()) else some (.inl 2) := by
  unfold fx_X7_checkSettingUp
  rw [h.2.2.2.2.1]
  cases vB V with
  | false => rw [boF rfl, if_pos rfl]
  | true => rw [boT rfl, if_neg (by simp)]
end ST
