/-! callBus: what is asked first, on both sides. -/
section CB
variable {fu k : Nat} {s : Nat → Nat} {c f : Nat → Int} {cy o t : Int} {S : Mem} {u : Option Bus}
theorem cyc_b (hcy : 30 ≤ cy ∧ cy ≤ 90) (hoo : 0 ≤ o ∧ o < cy) (ht : 0 ≤ t ∧ t < 1000000) : -1 ≤ (t - o) / cy ∧ (t - o) / cy < 1000000 := by
  constructor
  · apply Int.le_ediv_of_mul_le (by omega); omega
  · apply Int.ediv_lt_of_lt_mul (by omega)
    have := Int.mul_le_mul_of_nonneg_left (show (1 : Int) ≤ cy by omega) (show (0 : Int) ≤ 1000000 by omega)
    omega
theorem s_hasBus (hcy : 30 ≤ cy ∧ cy ≤ 90) (hoo : 0 ≤ o ∧ o < cy) (ht : 0 ≤ t ∧ t < 1000000) (hu : okU s c f cy o t u) (hU : kcU S k cy o u) : f_X3_hasBusIn fu k (i32 t) S = some (bo (act cy o t u).isSome) := by
  unfold f_X3_hasBusIn f_X3_hasBusIn_13
  cases u with
  | none =>
    have hU : S.1 3 k 13 = i32 0 := hU
    rw [hU, leT (by omega) (by omega) (by omega), nb_0]
    rfl
  | some b =>
    obtain ⟨h13, -⟩ := hU
    obtain ⟨-, hb0, hbn, hbn2, -⟩ := hu b rfl
    have hnow := bus_now (cy := cy) (by omega) hb0
    have hmul : -90 ≤ b.1 * cy ∧ b.1 * cy ≤ 7200 * 90 := by
      constructor
      · have := Int.mul_le_mul_of_nonneg_right hbn (show 0 ≤ cy by omega); omega
      · exact Int.mul_le_mul hbn2 (by omega) (by omega) (by omega)
    rw [h13]
    by_cases e : t < b.1 * cy + o + cy
    · have eact : act cy o t (some b) = some b := if_pos (hnow.mpr e)
      rw [leF e (by omega) (by omega), nb_1, eact]
      rfl
    · have eact : act cy o t (some b) = none := if_neg (fun z => e (hnow.mp z))
      rw [leT (by omega) (by omega) (by omega), nb_0, eact]
      rfl
end CB
theorem m_eoc {fu : Nat} {C : Cf} {V : Rn} {S : Mem} {k m : Nat} (hfu : 100 ≤ fu) (h1 : okC C) (h3 : moC S C) (h4 : okV C V) (h6 : moV S C V) (hk : k < cJ C) (hm : m < 4) : ∃ S' : Mem, f_X8_errorOfCall fu (i32 (k : Int)) (i32 (m : Int)) S = some (i32 (if plA C (cJ C) 0 = true ∧ lowP (cS C k) m (mny (cS C k)) 0 ≠ -1 ∧ (act (cCy C) (cO C k) (vK V) (vU V k)).isSome = false then 0 else 2), S') ∧ moF S S' ∧ S'.1 8 0 0 = S.1 8 0 0 ∧ PMA S' C := by
  have hj : 2 ≤ cJ C ∧ cJ C ≤ 5 := ⟨h1.1, h1.2.1⟩
  obtain ⟨hoJ, hoo⟩ := h1.2.2.2.2.1 k hk
  have hcy := hoJ.2.2.2
  have hK : 0 ≤ vK V ∧ vK V < 1000000 := ⟨h4.1, by have := h4.2.1; omega⟩
  have hmn := mny_le (cS C k)
  have hlow := lowP_b (cS C k) m (mny (cS C k)) 0
  obtain ⟨S', e1, e2, e3, e4⟩ := m_all (fu := fu) (by omega) h1 h3
  have h3' := h3.mf e2
  have hph : f_X8_phaseOf fu (i32 (k : Int)) (i32 (m : Int)) S' = some (i32 (lowP (cS C k) m (mny (cS C k)) 0)) := m_low2 (h3'.2.1 k hk).1 hoJ hm (mny (cS C k)) 0 fu (by omega) (by omega)
  have go : ∀ b : Bool, f_X8_errorOfCall_49 fu (i32 (k : Int)) (i32 (m : Int)) (bo b) S = some (i32 (if plA C (cJ C) 0 = true ∧ lowP (cS C k) m (mny (cS C k)) 0 ≠ -1 ∧ b = false then 0 else 2), S') := by
    intro b
    unfold f_X8_errorOfCall_49 f_X8_errorOfCall_71 f_X8_errorOfCall_76
    rw [e1, b2s, hph, b1s]
    cases plA C (cJ C) 0 with
    | false => rw [boF rfl, if_neg (by simp), q_2]
    | true =>
      rw [boT rfl]
      by_cases e : lowP (cS C k) m (mny (cS C k)) 0 = -1
      · rw [if_pos (show i32 (lowP (cS C k) m (mny (cS C k)) 0) = (-1 : Int32) by rw [e, q_m1]), if_neg (fun z => z.2.1 e), q_2]
      · have hb : -1 ≤ lowP (cS C k) m (mny (cS C k)) 0 ∧ lowP (cS C k) m (mny (cS C k)) 0 < 4 := by
          rcases hlow with z | ⟨q, z1, z2, z3⟩
          · rw [z]; omega
          · rw [z3]; omega
        rw [if_neg (fun z => e ((q_eq (by omega) (by omega) (by omega) (by omega)).mp (z.trans q_m1)))]
        cases b with
        | false => rw [boF rfl, if_pos ⟨rfl, e, rfl⟩, q_0]
        | true => rw [boT rfl, if_neg (fun z => by cases z.2.2), q_2]
  refine ⟨S', ?_, e2, e3, e4⟩
  unfold f_X8_errorOfCall f_X8_errorOfCall_48
  rw [m_isJ hj h3.1 (by omega), b1s, boT (decide_eq_true (by omega)), m_isM (by omega), b1s, boT (decide_eq_true (by omega)), gdt (q_inb (by omega) (by omega) (by omega)), q_nat (by omega) (by omega), show ((k : Int)).toNat = k by omega]
  have hU := (h6.2.2.2.2.2.1 k hk).2.2
  have hu : okU (cS C k) (cC C k) (cF C k) (cCy C) (cO C k) (vK V) (vU V k) := h4.2.2.2.2.2.2.2.2.2.2.2.2 k hk
  generalize hue : vU V k = u at *
  cases u with
  | none =>
    have hU : S.1 34 0 k = 0 := hU
    rw [hU, if_pos rfl]
    exact go false
  | some b =>
    obtain ⟨h34, h35, -⟩ := hU
    obtain ⟨-, hb0, hbn, hbn2, -⟩ := hu b rfl
    have hd := cyc_b hcy hoo hK
    rw [h34, if_neg (by decide +kernel), gdt (q_inb (by omega) (by omega) (by omega)), h6.1, m_cycleOf (h3.2.1 k hk).1.1 (h3.2.1 k hk).1.2.2.1 (h3.2.1 k hk).2 (by omega) (by omega) hK, b1s, h35]
    by_cases e : (vK V - cO C k) / cCy C = b.1
    · have eact : act (cCy C) (cO C k) (vK V) (some b) = some b := if_pos e
      rw [eqT e.symm, eact]
      exact go true
    · have eact : act (cCy C) (cO C k) (vK V) (some b) = none := if_neg e
      rw [eqF (fun z => e z.symm) (by omega) (by omega) (by omega) (by omega), eact]
      exact go false
