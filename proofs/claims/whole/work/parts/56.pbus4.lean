/-! callBus: the model takes the bus. -/
theorem SMP_eq {S T : Mem} {k : Nat} {s : Nat → Nat} {c f : Nat → Int} {cy : Int} (h : SM S k s c f cy) (hp : PM S k s c f cy) (he : ∀ a i, a < 34 → (a ≠ 8 ∨ i ≠ 3) → T.1 a 0 i = S.1 a 0 i) : SM T k s c f cy ∧ PM T k s c f cy := by
  obtain ⟨a0, a1, a2, a3, a4, a5⟩ := h
  exact ⟨⟨a0, (he _ _ (by omega) (by omega)).trans a1, (he _ _ (by omega) (by omega)).trans a2, fun p hq => (he _ _ (by omega) (by omega)).trans (a3 p hq), fun p hq => (he _ _ (by omega) (by omega)).trans (a4 p hq), fun p hq => (he _ _ (by omega) (by omega)).trans (a5 p hq)⟩, ⟨(he _ _ (by omega) (by omega)).trans hp.1, fun p hq => ⟨(he _ _ (by omega) (by omega)).trans (hp.2 p hq).1, (he _ _ (by omega) (by omega)).trans (hp.2 p hq).2⟩⟩⟩
section MT
variable {fu k q : Nat} {s : Nat → Nat} {c f : Nat → Int} {cy o t ph : Int} {Z : Mem} {x2 : Int32}
theorem m_178 (hk : k < 5) : f_X8_callBus_178 fu (i32 (k : Int)) x2 Z = some (Z.1 38 0 k, Z) := by
  unfold f_X8_callBus_178
  rw [gdt (q_inb (by omega) (by omega) (by omega)), q_nat (by omega) (by omega), show ((k : Int)).toNat = k by omega]
/-- who gives in the model: from the state Z on, where the giver is q and the gain 0 -/
theorem m_135 (hfu : 100 ≤ fu) (ho : okJ s c f cy) (h0 : 0 ≤ lef s c cy) (hM : SM Z k s c f cy) (hP : PM Z k s c f cy) (h24 : Z.1 24 0 k = i32 o) (hclk : Z.1 8 0 14 = i32 t) (hoo : 0 ≤ o ∧ o < cy) (ht : 0 ≤ t ∧ t < 10000) (hq : q < mny s) (hphr : ph = -1 ∨ ∃ r : Nat, r < mny s ∧ ph = (r : Int)) (hx : ∀ r : Nat, ph = (r : Int) → sms (gcs (grn s c f cy) (clr s c)) r ≤ (t - o) % cy ∧ (t - o) % cy < sms (gcs (grn s c f cy) (clr s c)) r + grn s c f cy r) (h37 : Z.1 37 0 k = i32 (q : Int)) (h38 : Z.1 38 0 k = i32 0) :
    ∃ T : Mem, f_X8_callBus_135 fu (i32 (k : Int)) x2 (i32 ph) (i32 (q : Int)) Z = some (i32 (if ph ≠ -1 ∧ ph < (q : Int) then imn 5 (imn (sms (gcs (grn s c f cy) (clr s c)) ph.toNat + grn s c f cy ph.toNat - 1 - (t - o) % cy) (grn s c f cy ph.toNat - lst s ph.toNat)) else 0), T) ∧ T.1 37 0 k = i32 ((if ph ≠ -1 ∧ ph < (q : Int) then ph.toNat else q : Nat) : Int) ∧ T.1 38 0 k = i32 (if ph ≠ -1 ∧ ph < (q : Int) then imn 5 (imn (sms (gcs (grn s c f cy) (clr s c)) ph.toNat + grn s c f cy ph.toNat - 1 - (t - o) % cy) (grn s c f cy ph.toNat - lst s ph.toNat)) else 0) ∧ (∀ a b i, ¬ (b = 0 ∧ i = k ∧ (a = 37 ∨ a = 38)) → T.1 a b i = Z.1 a b i) ∧ T.2 = Z.2 := by
  have hcy := ho.2.2.2
  have hmn := mny_le s
  have hk := hM.1
  have hx1 := Int.emod_nonneg (t - o) (show cy ≠ 0 by omega)
  have hx2 := Int.emod_lt_of_pos (t - o) (show 0 < cy by omega)
  have stay : ¬ (ph ≠ -1 ∧ ph < (q : Int)) → ∃ T : Mem, (some (Z.1 38 0 k, Z) : Option (Int32 × Mem)) = some (i32 (if ph ≠ -1 ∧ ph < (q : Int) then imn 5 (imn (sms (gcs (grn s c f cy) (clr s c)) ph.toNat + grn s c f cy ph.toNat - 1 - (t - o) % cy) (grn s c f cy ph.toNat - lst s ph.toNat)) else 0), T) ∧ T.1 37 0 k = i32 ((if ph ≠ -1 ∧ ph < (q : Int) then ph.toNat else q : Nat) : Int) ∧ T.1 38 0 k = i32 (if ph ≠ -1 ∧ ph < (q : Int) then imn 5 (imn (sms (gcs (grn s c f cy) (clr s c)) ph.toNat + grn s c f cy ph.toNat - 1 - (t - o) % cy) (grn s c f cy ph.toNat - lst s ph.toNat)) else 0) ∧ (∀ a b i, ¬ (b = 0 ∧ i = k ∧ (a = 37 ∨ a = 38)) → T.1 a b i = Z.1 a b i) ∧ T.2 = Z.2 := by
    intro hn
    rw [if_neg hn, if_neg hn, h38]
    exact ⟨Z, rfl, h37, h38, fun _ _ _ _ => rfl, rfl⟩
  unfold f_X8_callBus_135
  rw [m_178 hk]
  rcases hphr with rfl | ⟨r, hr, rfl⟩
  · rw [if_pos q_m1.symm]
    exact stay (fun z => z.1 rfl)
  · rw [if_neg (fun z => absurd ((q_eq (a := (r : Int)) (b := -1) (by omega) (by omega) (by omega) (by omega)).mp (z.trans q_m1)) (by omega))]
    by_cases e : (q : Int) ≤ (r : Int)
    · rw [leT e (by omega) (by omega)]
      exact stay (by omega)
    · obtain ⟨y1, y2⟩ := hx r rfl
      have hg := grn_b (f := f) ho h0 hr
      have hl := lst_b s r
      have hb := gsum_b (f := f) h0 r (by omega)
      obtain ⟨w1, w2⟩ := SMP_eq (T := wI Z 37 0 k (i32 (r : Int))) hM hP (fun a i h1 h2 => w_ne (by omega))
      have hbh : f_X8_behind fu (i32 (k : Int)) (i32 (r : Int)) (wI Z 37 0 k (i32 (r : Int))) = some (i32 (sms (gcs (grn s c f cy) (clr s c)) r + grn s c f cy r - 1 - (t - o) % cy)) := m_bh2 hfu ho h0 w1 w2 (by rw [w_ne (by omega)]; exact h24) (by rw [w_ne (by omega)]; exact hclk) hoo (by omega) hr y1 y2 (sms (gcs (grn s c f cy) (clr s c)) r + grn s c f cy r - 1 - (t - o) % cy).toNat 0 fu (by omega) (by omega)
      have i1 := imn_b 5 (sms (gcs (grn s c f cy) (clr s c)) r + grn s c f cy r - 1 - (t - o) % cy)
      rw [leF (by omega) (by omega) (by omega), gdt (q_inb (by omega) (by omega) (by omega)), q_nat (by omega) (by omega), show ((k : Int)).toNat = k by omega, hbh, b1s, q_5, m_least (by omega) (by omega) (by omega) (by omega), b1s, m_above ho w1 w2 hr, b1s, m_least (by omega) (by omega) (by omega) (by omega), b1s, gdt (q_inb (by omega) (by omega) (by omega)), m_178 hk, w_eq, imn_as, if_pos (show (r : Int) ≠ -1 ∧ (r : Int) < (q : Int) by omega), if_pos (show (r : Int) ≠ -1 ∧ (r : Int) < (q : Int) by omega), show ((r : Int)).toNat = r by omega]
      refine ⟨_, rfl, ?_, w_eq, fun a b i hn => ?_, rfl⟩
      · rw [w_ne (by omega), w_eq]
      · rw [w_ne (by omega), w_ne (by omega)]
end MT
