/-! run: vehicles that come at the junction 0. -/
theorem q_3600 : (3600 : Int32) = i32 3600 := rfl
theorem n_0 : (0 : Int32).toNatClampNeg = 0 := rfl
def upI (f : Nat → Int) (k : Nat) (v : Int) : Nat → Int := fun j => if j = k then v else f j
theorem upI_s {f : Nat → Int} {k : Nat} {v : Int} : upI f k v k = v := if_pos rfl
theorem upI_n {f : Nat → Int} {k j : Nat} {v : Int} (h : j ≠ k) : upI f k v j = f j := if_neg h
section CM
variable {fu : Nat} {S SR : Mem}
theorem s_come {A M Q f : Int} (hA : S.1 6 0 2 = i32 A) (hM : S.1 6 0 3 = i32 M) (hQ : S.1 3 0 11 = i32 Q) (hF : S.1 13 0 0 = i32 f) (h1 : 0 ≤ A ∧ A < 3600) (h2 : 0 ≤ f ∧ f ≤ 1800) : ∃ S' : Mem, f_X6_letCome fu 0 S = some ((), S') ∧ S'.1 6 0 2 = i32 (if A + f < 3600 then A + f else A + f - 3600) ∧ S'.1 6 0 3 = i32 (if A + f < 3600 then M else M + 1) ∧ S'.1 3 0 11 = i32 (if A + f < 3600 then Q else Q + 1) ∧ ∀ a b i, ¬ (a = 6 ∧ b = 0 ∧ (i = 2 ∨ i = 3)) → ¬ (a = 3 ∧ b = 0 ∧ i = 11) → S'.1 a b i = S.1 a b i := by
  have e : f_X7_read fu 13 4 0 0 S = some (i32 f) := by
    rw [← hF]
    exact s_read (a := 0) (by omega) (by omega) (by omega)
  unfold f_X6_letCome f_X6_letCome_56 f_X3_flowOf
  rw [e, b1s, b1s, hA, q_add, w_eq, q_3600]
  by_cases h : A + f < 3600
  · rw [ltT h (by omega) (by omega)]
    simp only [if_pos h]
    exact ⟨_, rfl, w_eq, (w_ne (by omega)).trans hM, (w_ne (by omega)).trans hQ, fun a b i q1 q2 => w_ne (by omega)⟩
  · rw [ltF (by omega) (by omega) (by omega)]
    simp only [if_neg h]
    refine ⟨_, rfl, ?_, ?_, ?_, fun a b i q1 q2 => ?_⟩
    · rw [w_ne (by omega), w_ne (by omega), w_eq, q_sub]
    · rw [w_eq, w_ne (by omega), w_ne (by omega), w_ne (by omega), hM, q_1, q_add]
    · rw [w_ne (by omega), w_eq, w_ne (by omega), w_ne (by omega), hQ, q_1, q_add]
    · rw [w_ne (by omega), w_ne (by omega), w_ne (by omega), w_ne (by omega)]
theorem m_come {A M Q f : Int} (hA : S.1 8 0 15 = i32 A) (hM : S.1 8 0 16 = i32 M) (hQ : S.1 30 0 0 = i32 Q) (hF : S.1 23 0 0 = i32 f) (h1 : 0 ≤ A ∧ A < 3600) (h2 : 0 ≤ f ∧ f ≤ 1800) : ∃ S' : Mem, f_X8_arrives fu S = some ((), S') ∧ S'.1 8 0 15 = i32 (if A + f < 3600 then A + f else A + f - 3600) ∧ S'.1 8 0 16 = i32 (if A + f < 3600 then M else M + 1) ∧ S'.1 30 0 0 = i32 (if A + f < 3600 then Q else Q + 1) ∧ ∀ a b i, ¬ (a = 8 ∧ b = 0 ∧ (i = 15 ∨ i = 16)) → ¬ (a = 30 ∧ b = 0 ∧ i = 0) → S'.1 a b i = S.1 a b i := by
  unfold f_X8_arrives f_X8_arrives_57
  rw [gdt (by decide +kernel), n_0, hF, hA, q_add, w_eq, q_3600]
  by_cases h : A + f < 3600
  · rw [ltT h (by omega) (by omega)]
    simp only [if_pos h]
    exact ⟨_, rfl, w_eq, (w_ne (by omega)).trans hM, (w_ne (by omega)).trans hQ, fun a b i q1 q2 => w_ne (by omega)⟩
  · rw [ltF (by omega) (by omega) (by omega), gdt (by decide +kernel), gdt (by decide +kernel)]
    simp only [if_neg h]
    refine ⟨_, rfl, ?_, ?_, ?_, fun a b i q1 q2 => ?_⟩
    · rw [w_ne (by omega), w_ne (by omega), w_eq, q_sub]
    · rw [w_ne (by omega), w_eq, w_ne (by omega), w_ne (by omega), hM, q_1, q_add]
    · rw [w_eq, w_ne (by omega), w_ne (by omega), w_ne (by omega), hQ, q_1, q_add]
    · rw [w_ne (by omega), w_ne (by omega), w_ne (by omega), w_ne (by omega)]
theorem r_come {C : Cf} {K A M T : Int} {U : Nat → Option Bus} {Q R : Nat → Int} {W : Nat → List Int} (hX : FX C K U S SR) (hD : DY C A M T Q R W S SR) (hK : K < 7200) (ho : okD C K A M T Q R W 0 0) : ∃ (S' SR' : Mem) (A' M' : Int) (Q' : Nat → Int), f_X6_letCome fu 0 S = some ((), S') ∧ f_X8_arrives fu SR = some ((), SR') ∧ FX C K U S' SR' ∧ DY C A' M' T Q' R W S' SR' ∧ okD C K A' M' T Q' R W 1 0 := by
  have hj : 2 ≤ cJ C ∧ cJ C ≤ 5 := ⟨hX.1.1, hX.1.2.1⟩
  obtain ⟨d1, d2, d3, d4, d5, d6⟩ := hD
  obtain ⟨o1, o2, o3, o4, o5, o6, o7, o8, o9, o10, o11, o12⟩ := ho
  have hf := (hX.1.2.2.2.2.1 0 (by omega)).1.2.2.1 0 (by omega)
  obtain ⟨S', s1, s2, s3, s4, s5⟩ := s_come (fu := fu) d1.1 d2.1 (d4 0 (by omega)).1 ((hX.2.2.1.2.2.1 0 (by omega)).1.2.2.2.2 0 (by omega)) ⟨o3, o4⟩ hf
  obtain ⟨SR', m1, m2, m3, m4, m5⟩ := m_come (fu := fu) d1.2 d2.2 (d4 0 (by omega)).2 ((hX.2.2.2.1.2.1 0 (by omega)).1.2.2.2.2.2 0 (by omega)) ⟨o3, o4⟩ hf
  rw [if_neg (by omega)] at o6
  generalize cF C 0 0 = f at *
  have h9 := o9 0 (by omega)
  refine ⟨S', SR', _, _, upI Q 0 (if A + f < 3600 then Q 0 else Q 0 + 1), s1, m1, hX.fr (fun a b i q1 q2 q3 q4 => s5 a b i (by omega) (by omega)) (fun a i q1 q2 => m5 a 0 i (by omega) (by omega)), ⟨⟨s2, m2⟩, ⟨s3, m3⟩, ⟨(s5 _ _ _ (by omega) (by omega)).trans d3.1, (m5 _ _ _ (by omega) (by omega)).trans d3.2⟩, fun k hk => ?_, fun k hk => ⟨(s5 _ _ _ (by omega) (by omega)).trans (d5 k hk).1, (m5 _ _ _ (by omega) (by omega)).trans (d5 k hk).2⟩, fun k hk => ⟨(s5 _ _ _ (by omega) (by omega)).trans (d6 k hk).1, fun r hr => (s5 _ _ _ (by omega) (by omega)).trans ((d6 k hk).2.1 r hr), (m5 _ _ _ (by omega) (by omega)).trans (d6 k hk).2.2.1, fun i hi => (m5 _ _ _ (by omega) (by omega)).trans ((d6 k hk).2.2.2 i hi)⟩⟩, ?_⟩
  · by_cases e : k = 0
    · subst e; rw [upI_s]; exact ⟨s4, m4⟩
    · rw [upI_n e]; exact ⟨(s5 _ _ _ (by omega) (by omega)).trans (d4 k hk).1, (m5 _ _ _ (by omega) (by omega)).trans (d4 k hk).2⟩
  · refine ⟨o1, o2, ?_, ?_, ?_, ?_, o7, o8, fun k hk => ?_, o10, ?_, fun k hk => ?_⟩
    · split <;> omega
    · split <;> omega
    · split <;> omega
    · have e1 : (if 0 < 1 then (1 : Int) else 0) = 1 := rfl
      rw [e1]; split <;> omega
    · by_cases e : k = 0
      · subst e; rw [upI_s]; split <;> omega
      · rw [upI_n e]; exact o9 k hk
    · rw [upI_s]; split <;> omega
    · obtain ⟨z1, z2, z3⟩ := o12 k hk
      rw [upI_n (by omega)]
      refine ⟨z1, fun e he => ?_, z3⟩
      have := z2 e he
      rw [if_neg (by omega), if_neg (by omega)] at this ⊢
      exact this
end CM
