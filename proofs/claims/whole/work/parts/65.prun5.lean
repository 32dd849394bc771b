/-! run: one junction, one second, some seconds. -/
section RV
variable {fu : Nat} {S SR : Mem}
theorem okD.sent {C : Cf} {K A M T T' : Int} {Q Q' R R' : Nat → Int} {W : Nat → List Int} {l k : Nat} (ho : okD C K A M T Q R W l k) (hk : k < cJ C) (hT : T' = T ∨ (T' = T + 1 ∧ k + 1 = cJ C)) (hQ : ∀ j, j < cJ C → 0 ≤ Q' j ∧ Q' j ≤ Q j) (hR : ∀ j, j < cJ C → 0 ≤ R' j ∧ R' j ≤ 2) (hj : 0 < cJ C) : okD C K A M T' Q' R' W l (k + 1) := by
  obtain ⟨o1, o2, o3, o4, o5, o6, o7, o8, o9, o10, o11, o12⟩ := ho
  rw [if_neg (by omega)] at o8
  refine ⟨o1, o2, o3, o4, o5, o6, by omega, ?_, fun j h => ?_, hR, ?_, fun j h => ?_⟩
  · by_cases e : k + 1 = cJ C
    · rw [if_pos e]; omega
    · rw [if_neg e]; omega
  · have := hQ j h
    have := o9 j h
    omega
  · have := hQ 0 hj
    omega
  · obtain ⟨z1, z2, z3⟩ := o12 j h
    have := hQ (j + 1) h
    refine ⟨by omega, fun e he => ?_, z3⟩
    have h2 := z2 e he
    refine ⟨h2.1, ?_⟩
    by_cases e1 : j < k
    · rw [if_pos e1] at h2
      rw [if_pos (by omega)]
      exact h2.2
    · rw [if_neg e1] at h2
      split <;> omega
theorem r_leave {C : Cf} {K A M T : Int} {U : Nat → Option Bus} {Q R : Nat → Int} {W : Nat → List Int} {k : Nat} (hk : k < cJ C) (hX : FX C K U S SR) (hD : DY C A M T Q R W S SR) (ho : okD C K A M T Q R W (k + 1) k) : ∃ (S' SR' : Mem) (T' : Int) (Q' R' : Nat → Int) (W' : Nat → List Int), (∀ B : Mem → Option (Unit × Mem), tlS fu B k S = B S') ∧ f_X8_leaves_63 fu (i32 (k : Int)) (bo (decide (k + 1 = cJ C))) SR = some ((), SR') ∧ FX C K U S' SR' ∧ DY C A M T' Q' R' W' S' SR' ∧ okD C K A M T' Q' R' W' (k + 1) (k + 1) := by
  have hj : 2 ≤ cJ C ∧ cJ C ≤ 5 := ⟨hX.1.1, hX.1.2.1⟩
  obtain ⟨d1, d2, d3, d4, d5, d6⟩ := hD
  have ho' := ho
  obtain ⟨o1, o2, o3, o4, o5, o6, o7, o8, o9, o10, o11, o12⟩ := ho'
  have hQk := o9 k hk
  have hRk := o10 k hk
  have hb : k + 1 < cJ C → ((W k).length : Int) + Q (k + 1) ≤ cLr C k ∧ 0 ≤ Q (k + 1) ∧ 0 ≤ cLr C k ∧ cLr C k ≤ 40 ∧ 1 ≤ cLs C k ∧ cLs C k ≤ 60 := fun h => by
    have h1 := (o12 k h).1
    have h2 := hX.1.2.2.2.2.2 k h
    have h3 := o9 (k + 1) h
    omega
  have hs := fun B => s_tl (fu := fu) (C := C) (A := B) (S := S) (k := k) (n := ((W k).length : Int)) (q := Q (k + 1)) (r := R k) (w := Q k) hj hX.2.2.1.1 hk hRk ⟨hQk.1, by omega⟩ (d5 k hk).1 (d4 k hk).1 (fun h => by
    have h1 := hb h
    exact ⟨(d6 k h).1, (d4 (k + 1) h).1, (hX.2.2.1.2.2.2 k h).2, by omega, by omega, by omega, by omega, by omega, by omega⟩)
  have hm := m_tl (fu := fu) (C := C) (S := SR) (k := k) (n := ((W k).length : Int)) (q := Q (k + 1)) (r := R k) (w := Q k) hj hk hRk ⟨hQk.1, by omega⟩ (d5 k hk).2 (d4 k hk).2 (fun h => by
    have h1 := hb h
    exact ⟨(d6 k h).2.2.1, (d4 (k + 1) h).2, (hX.2.2.2.1.2.2 k h).2, by omega, by omega, by omega, by omega, by omega, by omega⟩)
  by_cases e : R k = 2 ∧ 0 < Q k ∧ (k + 1 < cJ C → ((W k).length : Int) + Q (k + 1) < cLr C k)
  · obtain ⟨e1, e2, e3⟩ := e
    obtain ⟨S', s1, s2, s3, s4, s5⟩ := s_leave (fu := fu) (C := C) (S := S) (k := k) (t := K) (w := Q k) (T := T) (n := ((W k).length : Int)) (l := cLs C k) hj hX.2.2.1.1 hk ⟨o1, by omega⟩ hX.2.2.2.2.2.1 (d4 k hk).1 d3.1 (fun h => by
      have h1 := hb h
      exact ⟨(d6 k h).1, (hX.2.2.1.2.2.2 k h).1, by omega, by omega⟩)
    obtain ⟨SR', m1, m2, m3, m4, m5⟩ := m_leave (fu := fu) (C := C) (S := SR) (k := k) (t := K) (w := Q k) (T := T) (n := (W k).length) (l := cLs C k) hj hk ⟨o1, by omega⟩ hX.2.2.2.2.2.2.1 (d4 k hk).2 d3.2 (fun h => by
      have h1 := hb h
      have h2 := e3 h
      exact ⟨(d6 k h).2.2.1, by omega, (hX.2.2.2.1.2.2 k h).1, by omega, by omega⟩)
    have hs' : ∀ B : Mem → Option (Unit × Mem), tlS fu B k S = B S' := fun B => by
      rw [hs B, if_pos ⟨e1, e2, e3⟩, s1, b2s]
    have hm' := hm.trans ((if_pos ⟨e1, e2, e3⟩).trans m1)
    have hQ' : ∀ j, j < cJ C → 0 ≤ upI Q k (Q k - 1) j ∧ upI Q k (Q k - 1) j ≤ Q j := fun j h => by
      have := o9 j h
      by_cases z : j = k
      · subst z; rw [upI_s]; omega
      · rw [upI_n z]; omega
    have hR' : ∀ j, j < cJ C → 0 ≤ upI R k 0 j ∧ upI R k 0 j ≤ 2 := fun j h => by
      have := o10 j h
      by_cases z : j = k
      · subst z; rw [upI_s]; omega
      · rw [upI_n z]; omega
    by_cases e4 : k + 1 = cJ C
    · obtain ⟨s6, s7⟩ := s4 e4
      obtain ⟨m6, m7⟩ := m4 e4
      refine ⟨S', SR', T + 1, upI Q k (Q k - 1), upI R k 0, W, hs', hm', hX.fr (fun a b i q1 q2 q3 q4 => s7 a b i (by omega) (by omega)) (fun a i q1 q2 => m7 a 0 i (by omega) (by omega) (by omega)), ⟨⟨(s7 _ _ _ (by omega) (by omega)).trans d1.1, (m7 _ _ _ (by omega) (by omega) (by omega)).trans d1.2⟩, ⟨(s7 _ _ _ (by omega) (by omega)).trans d2.1, (m7 _ _ _ (by omega) (by omega) (by omega)).trans d2.2⟩, ⟨s6, m6⟩, fun j h => ?_, fun j h => ?_, fun j h => ⟨(s7 _ _ _ (by omega) (by omega)).trans (d6 j h).1, fun r hr => (s7 _ _ _ (by omega) (by omega)).trans ((d6 j h).2.1 r hr), (m7 _ _ _ (by omega) (by omega) (by omega)).trans (d6 j h).2.2.1, fun i hi => (m7 _ _ _ (by omega) (by omega) (by omega)).trans ((d6 j h).2.2.2 i hi)⟩⟩, ho.sent hk (Or.inr ⟨rfl, e4⟩) hQ' hR' (by omega)⟩
      · by_cases z : j = k
        · subst z; rw [upI_s]; exact ⟨s2, m2⟩
        · rw [upI_n z]; exact ⟨(s7 _ _ _ (by omega) (by omega)).trans (d4 j h).1, (m7 _ _ _ (by omega) (by omega) (by omega)).trans (d4 j h).2⟩
      · by_cases z : j = k
        · subst z; rw [upI_s]; exact ⟨s3, m3⟩
        · rw [upI_n z]; exact ⟨(s7 _ _ _ (by omega) (by omega)).trans (d5 j h).1, (m7 _ _ _ (by omega) (by omega) (by omega)).trans (d5 j h).2⟩
    · have e5 : k + 1 < cJ C := by omega
      obtain ⟨s6, s8, s7⟩ := s5 e5
      obtain ⟨m6, m8, m7⟩ := m5 e5
      have hbk := hb e5
      have e3k := e3 e5
      obtain ⟨y1, y2, y3⟩ := o12 k e5
      have hp : ((K + cLs C k) % 61).toNat < 61 := by omega
      have hp2 : (K + cLs C k) % 61 = (((K + cLs C k) % 61).toNat : Int) := by omega
      have ho2 := ho.sent (T' := T) hk (Or.inl rfl) hQ' hR' (by omega)
      obtain ⟨p1, p2, p3, p4, p5, p6, p7, p8, p9, p10, p11, p12⟩ := ho2
      have hlen : ((W k ++ [K + cLs C k]).length : Int) = (W k).length + 1 := by
        rw [List.length_append, List.length_singleton]; omega
      refine ⟨S', SR', T, upI Q k (Q k - 1), upI R k 0, upW W k (W k ++ [K + cLs C k]), hs', hm', hX.fr (fun a b i q1 q2 q3 q4 => s7 a b i (by omega) (by omega) (by omega)) (fun a i q1 q2 => m7 a 0 i (by omega) (by omega) (by omega) (by omega)), ⟨⟨(s7 _ _ _ (by omega) (by omega) (by omega)).trans d1.1, (m7 _ _ _ (by omega) (by omega) (by omega) (by omega)).trans d1.2⟩, ⟨(s7 _ _ _ (by omega) (by omega) (by omega)).trans d2.1, (m7 _ _ _ (by omega) (by omega) (by omega) (by omega)).trans d2.2⟩, ⟨(s7 _ _ _ (by omega) (by omega) (by omega)).trans d3.1, (m7 _ _ _ (by omega) (by omega) (by omega) (by omega)).trans d3.2⟩, fun j h => ?_, fun j h => ?_, fun j h => ?_⟩, p1, p2, p3, p4, p5, p6, p7, p8, p9, p10, p11, fun j h => ?_⟩
      · by_cases z : j = k
        · subst z; rw [upI_s]; exact ⟨s2, m2⟩
        · rw [upI_n z]; exact ⟨(s7 _ _ _ (by omega) (by omega) (by omega)).trans (d4 j h).1, (m7 _ _ _ (by omega) (by omega) (by omega) (by omega)).trans (d4 j h).2⟩
      · by_cases z : j = k
        · subst z; rw [upI_s]; exact ⟨s3, m3⟩
        · rw [upI_n z]; exact ⟨(s7 _ _ _ (by omega) (by omega) (by omega)).trans (d5 j h).1, (m7 _ _ _ (by omega) (by omega) (by omega) (by omega)).trans (d5 j h).2⟩
      · by_cases z : j = k
        · subst z
          rw [upW_s]
          refine ⟨?_, fun r hr => ?_, ?_, fun i hi => ?_⟩
          · rw [hlen]; exact s6
          · rw [cnt_app]
            by_cases er : r = ((K + cLs C j) % 61).toNat
            · rw [if_pos (by omega), er, s8, (d6 j h).2.1 _ hp, q_1, q_add]
              rfl
            · rw [if_neg (by omega), s7 _ _ _ (by omega) (by omega) (by omega)]
              exact (d6 j h).2.1 r hr
          · rw [hlen]; exact m6
          · by_cases ei : i < (W j).length
            · rw [List.getElem_append_left ei, m7 _ _ _ (by omega) (by omega) (by omega) (by omega)]
              exact (d6 j h).2.2.2 i ei
            · rw [List.length_append, List.length_singleton] at hi
              have ei' : i = (W j).length := by omega
              subst ei'
              rw [List.getElem_concat_length rfl]
              exact m8
        · rw [upW_n z]
          have h1 := (o12 j h).1
          have h2 := hX.1.2.2.2.2.2 j h
          have h3 := o9 (j + 1) h
          exact ⟨(s7 _ _ _ (by omega) (by omega) (by omega)).trans (d6 j h).1, fun r hr => (s7 _ _ _ (by omega) (by omega) (by omega)).trans ((d6 j h).2.1 r hr), (m7 _ _ _ (by omega) (by omega) (by omega) (by omega)).trans (d6 j h).2.2.1, fun i hi => (m7 _ _ _ (by omega) (by omega) (by omega) (by omega)).trans ((d6 j h).2.2.2 i hi)⟩
      · by_cases z : j = k
        · subst z
          rw [upW_s, hlen]
          rw [upI_n (by omega)]
          refine ⟨by omega, fun e he => ?_, List.pairwise_append.mpr ⟨y3, List.pairwise_singleton _ _, fun a ha b hb' => ?_⟩⟩
          · rw [if_neg (by omega), if_pos (by omega)]
            rcases List.mem_append.mp he with he | he
            · have := y2 e he
              rw [if_neg (by omega), if_neg (by omega)] at this
              omega
            · rw [List.mem_singleton.mp he]; omega
          · have := y2 a ha
            rw [if_neg (by omega), if_neg (by omega)] at this
            rw [List.mem_singleton.mp hb']
            omega
        · rw [upW_n z]
          exact p12 j h
  · exact ⟨S, SR, T, Q, R, W, fun B => (hs B).trans (if_neg e), hm.trans (if_neg e), hX, ⟨d1, d2, d3, d4, d5, d6⟩, ho.sent hk (Or.inl rfl) (fun j h => by have := o9 j h; omega) o10 (by omega)⟩
end RV
