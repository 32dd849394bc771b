/-! callBus: the model's whole gift. -/
section MG
variable {fu k q : Nat} {s : Nat → Nat} {c f : Nat → Int} {cy o t ph : Int} {Z : Mem} {x2 : Int32}
theorem m_give (hfu : 100 ≤ fu) (ho : okJ s c f cy) (h0 : 0 ≤ lef s c cy) (hM : SM Z k s c f cy) (hP : PM Z k s c f cy) (h24 : Z.1 24 0 k = i32 o) (hclk : Z.1 8 0 14 = i32 t) (hoo : 0 ≤ o ∧ o < cy) (ht : 0 ≤ t ∧ t < 10000) (hq : q < mny s) (hphr : ph = -1 ∨ ∃ r : Nat, r < mny s ∧ ph = (r : Int)) (hx : ∀ r : Nat, ph = (r : Int) → sms (gcs (grn s c f cy) (clr s c)) r ≤ (t - o) % cy ∧ (t - o) % cy < sms (gcs (grn s c f cy) (clr s c)) r + grn s c f cy r) (h37 : Z.1 37 0 k = i32 (q : Int)) (h38 : Z.1 38 0 k = i32 0) :
    ∃ T : Mem, (if i32 ph = i32 (q : Int) then gd (inb (i32 (k : Int)) 5) (if (Z.1 22 0 (i32 (k : Int)).toNatClampNeg) - 1 ≤ i32 (q : Int) then f_X8_callBus_135 fu (i32 (k : Int)) x2 (i32 ph) (i32 (q : Int)) Z else gd (inb (i32 (k : Int)) 5) (b1 (f_X8_above fu (i32 (k : Int)) (i32 (q : Int) + 1) (wI Z 37 0 (i32 (k : Int)).toNatClampNeg (i32 (q : Int) + 1))) (fun r125 => b1 (f_X8_least fu 5 r125 (wI Z 37 0 (i32 (k : Int)).toNatClampNeg (i32 (q : Int) + 1))) (fun r128 => gd (inb (i32 (k : Int)) 5) (f_X8_callBus_178 fu (i32 (k : Int)) x2 (wI (wI Z 37 0 (i32 (k : Int)).toNatClampNeg (i32 (q : Int) + 1)) 38 0 (i32 (k : Int)).toNatClampNeg r128)))))) else f_X8_callBus_135 fu (i32 (k : Int)) x2 (i32 ph) (i32 (q : Int)) Z) = some (i32 (busG s c f cy ((t - o) % cy) ph q).2, T) ∧ T.1 37 0 k = i32 ((busG s c f cy ((t - o) % cy) ph q).1 : Int) ∧ T.1 38 0 k = i32 (busG s c f cy ((t - o) % cy) ph q).2 ∧ (∀ a b i, ¬ (b = 0 ∧ i = k ∧ (a = 37 ∨ a = 38)) → T.1 a b i = Z.1 a b i) ∧ T.2 = Z.2 := by
  have hcy := ho.2.2.2
  have hmn := mny_le s
  have hk := hM.1
  have hphb : -1 ≤ ph ∧ ph < 4 := by
    rcases hphr with z | ⟨r, hr, z⟩ <;> rw [z] <;> omega
  obtain ⟨T, t1, t2, t3, t4, t5⟩ := m_135 (x2 := x2) hfu ho h0 hM hP h24 hclk hoo ht hq hphr hx h37 h38
  have e3 : i32 (q : Int) + 1 = i32 ((q + 1 : Nat) : Int) := by rw [q_1, q_add]; rfl
  have hN : (i32 (k : Int)).toNatClampNeg = k := by rw [q_nat (by omega) (by omega)]; omega
  rw [hN, e3]
  by_cases e1 : ph = (q : Int)
  · have e4 : Z.1 22 0 k - 1 = i32 ((mny s : Int) - 1) := by rw [hM.2.1, q_1, q_sub]
    rw [eqT e1, gdt (q_inb (by omega) (by omega) (by omega)), e4]
    by_cases e2 : q + 1 < mny s
    · have hg := grn_b (f := f) ho h0 e2
      have hl := lst_b s (q + 1)
      obtain ⟨w1, w2⟩ := SMP_eq (T := wI Z 37 0 k (i32 ((q + 1 : Nat) : Int))) hM hP (fun a i h1 h2 => w_ne (by omega))
      have eG : busG s c f cy ((t - o) % cy) ph q = (q + 1, imn 5 (grn s c f cy (q + 1) - lst s (q + 1))) := by unfold busG; rw [if_pos ⟨e1, e2⟩]
      rw [leF (by omega) (by omega) (by omega), gdt (q_inb (by omega) (by omega) (by omega)), m_above ho w1 w2 e2, b1s, q_5, m_least (by omega) (by omega) (by omega) (by omega), b1s, gdt (q_inb (by omega) (by omega) (by omega)), m_178 hk, w_eq, eG]
      refine ⟨_, rfl, ?_, w_eq, fun a b i hn => ?_, rfl⟩
      · rw [w_ne (by omega), w_eq]
      · rw [w_ne (by omega), w_ne (by omega)]
    · have eG : busG s c f cy ((t - o) % cy) ph q = (q, 0) := by unfold busG; rw [if_neg (by omega), if_neg (by omega)]
      rw [if_neg (show ¬ (ph ≠ -1 ∧ ph < (q : Int)) by omega)] at t1 t2 t3
      rw [leT (by omega) (by omega) (by omega), eG]
      exact ⟨T, t1, t2, t3, t4, t5⟩
  · rw [eqF e1 (by omega) (by omega) (by omega) (by omega)]
    by_cases e2 : ph ≠ -1 ∧ ph < (q : Int)
    · have eG : busG s c f cy ((t - o) % cy) ph q = (ph.toNat, imn 5 (imn (sms (gcs (grn s c f cy) (clr s c)) ph.toNat + grn s c f cy ph.toNat - 1 - (t - o) % cy) (grn s c f cy ph.toNat - lst s ph.toNat))) := by unfold busG; rw [if_neg (fun z => e1 z.1), if_pos e2]
      rw [if_pos e2] at t1 t2 t3
      rw [eG]
      exact ⟨T, t1, t2, t3, t4, t5⟩
    · have eG : busG s c f cy ((t - o) % cy) ph q = (q, 0) := by unfold busG; rw [if_neg (fun z => e1 z.1), if_neg e2]
      rw [if_neg e2] at t1 t2 t3
      rw [eG]
      exact ⟨T, t1, t2, t3, t4, t5⟩
end MG
