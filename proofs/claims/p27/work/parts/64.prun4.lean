/-! run: a vehicle leaves. -/
section LV2
variable {fu : Nat} {S SR : Mem}
theorem s_send {k : Nat} {t l : Int} (ht : 0 ≤ t ∧ t < 1000000) (hl : 0 ≤ l ∧ l ≤ 60) (h1 : S.1 4 k 1 = i32 l) : f_X4_send fu k (i32 t) S = some ((), wI (wI S 17 k ((t + l) % 61).toNat (S.1 17 k ((t + l) % 61).toNat + 1)) 4 k 3 (S.1 4 k 3 + 1)) := by
  have e1 : f_X7_modulo fu (i32 (t + l)) 61 S = some (i32 ((t + l) % 61)) := s_modulo (c := 61) (by omega) (by omega) (by omega) (by omega)
  unfold f_X4_send
  rw [h1, q_add, e1, b1s, s_read (by omega) (by omega) (by omega), b1s, s_write (by omega) (by omega) (by omega), b2s, w_ne (by omega)]
theorem s_room {C : Cf} {k : Nat} {n q : Int} (hj : 2 ≤ cJ C ∧ cJ C ≤ 5) (h1 : S.1 1 0 1 = i32 (cJ C : Int)) (hk : k < cJ C) (hn : k + 1 < cJ C → S.1 4 k 3 = i32 n ∧ S.1 3 (k + 1) 11 = i32 q ∧ S.1 4 k 2 = i32 (cLr C k) ∧ 0 ≤ n ∧ n < 10000 ∧ 0 ≤ q ∧ q < 10000 ∧ 0 ≤ cLr C k ∧ cLr C k < 10000) : f_X6_hasRoomBehind fu (i32 (k : Int)) S = some (bo (decide (k + 1 < cJ C → n + q < cLr C k))) := by
  unfold f_X6_hasRoomBehind f_X6_hasRoomBehind_33 f_X6_hasRoomBehind_38
  rw [s_isLast hj h1 (by omega), b1s]
  by_cases e : k + 1 = cJ C
  · rw [boT (decide_eq_true (by omega)), decide_eq_true (fun z => absurd z (by omega)), nb_1]
    rfl
  · obtain ⟨g1, g2, g3, g4, g5, g6, g7, g8, g9⟩ := hn (by omega)
    have e1 : i32 (k : Int) + 1 = i32 ((k + 1 : Nat) : Int) := by rw [q_1, q_add]; rfl
    unfold f_X1_vehiclesOnLinkFrom
    rw [boF (decide_eq_false (by omega)), s_linkFrom' hj h1 (by omega), b1s, e1, s_at' hj.2 h1 (by omega), b1s, b1s, b1s, g1, g2, g3, q_add]
    by_cases e2 : n + q < cLr C k
    · rw [leF (by omega) (by omega) (by omega), decide_eq_true (fun _ => e2), nb_1]; rfl
    · rw [leT (by omega) (by omega) (by omega), decide_eq_false (fun z => e2 (z (by omega))), nb_0]; rfl
/-- what the class asks before one leaves -/
abbrev tlS (fu : Nat) (A : Mem → Option (Unit × Mem)) (k : Nat) (S : Mem) : Option (Unit × Mem) := if S.1 3 k 12 = 2 then (if S.1 3 k 11 ≤ 0 then A S else b1 (f_X6_hasRoomBehind fu (i32 (k : Int)) S) (fun r85 => if r85 = 0 then A S else b2 (f_X6_letLeave fu (i32 (k : Int)) S) (fun _ S93 => A S93))) else A S
theorem s_tl {C : Cf} {k : Nat} {A : Mem → Option (Unit × Mem)} {n q r w : Int} (hj : 2 ≤ cJ C ∧ cJ C ≤ 5) (h1 : S.1 1 0 1 = i32 (cJ C : Int)) (hk : k < cJ C) (hr : 0 ≤ r ∧ r ≤ 2) (hw : 0 ≤ w ∧ w < 10000) (h12 : S.1 3 k 12 = i32 r) (h11 : S.1 3 k 11 = i32 w) (hn : k + 1 < cJ C → S.1 4 k 3 = i32 n ∧ S.1 3 (k + 1) 11 = i32 q ∧ S.1 4 k 2 = i32 (cLr C k) ∧ 0 ≤ n ∧ n < 10000 ∧ 0 ≤ q ∧ q < 10000 ∧ 0 ≤ cLr C k ∧ cLr C k < 10000) : tlS fu A k S = if r = 2 ∧ 0 < w ∧ (k + 1 < cJ C → n + q < cLr C k) then b2 (f_X6_letLeave fu (i32 (k : Int)) S) (fun _ S93 => A S93) else A S := by
  unfold tlS
  rw [h12, h11, s_room hj h1 hk hn, b1s, q_2, q_0]
  by_cases e1 : r = 2
  · rw [eqT e1]
    by_cases e2 : w ≤ 0
    · rw [leT e2 (by omega) (by omega), if_neg (by omega)]
    · rw [leF (by omega) (by omega) (by omega)]
      by_cases e3 : k + 1 < cJ C → n + q < cLr C k
      · rw [← q_0, boT (decide_eq_true e3), if_pos ⟨e1, by omega, e3⟩]
      · rw [← q_0, boF (decide_eq_false e3), if_neg (fun z => e3 z.2.2)]
  · rw [eqF e1 (by omega) (by omega) (by omega) (by omega), if_neg (fun z => e1 z.1)]
theorem s_leave {C : Cf} {k : Nat} {t w T n l : Int} (hj : 2 ≤ cJ C ∧ cJ C ≤ 5) (h1 : S.1 1 0 1 = i32 (cJ C : Int)) (hk : k < cJ C) (ht : 0 ≤ t ∧ t < 10000) (h6 : S.1 6 0 1 = i32 t) (h11 : S.1 3 k 11 = i32 w) (h64 : S.1 6 0 4 = i32 T) (hn : k + 1 < cJ C → S.1 4 k 3 = i32 n ∧ S.1 4 k 1 = i32 l ∧ 0 ≤ l ∧ l ≤ 60) : ∃ S' : Mem, f_X6_letLeave fu (i32 (k : Int)) S = some ((), S') ∧ S'.1 3 k 11 = i32 (w - 1) ∧ S'.1 3 k 12 = i32 0 ∧ (k + 1 = cJ C → S'.1 6 0 4 = i32 (T + 1) ∧ ∀ a b i, ¬ (a = 3 ∧ b = k ∧ (i = 11 ∨ i = 12)) → ¬ (a = 6 ∧ b = 0 ∧ i = 4) → S'.1 a b i = S.1 a b i) ∧ (k + 1 < cJ C → S'.1 4 k 3 = i32 (n + 1) ∧ S'.1 17 k ((t + l) % 61).toNat = S.1 17 k ((t + l) % 61).toNat + 1 ∧ ∀ a b i, ¬ (a = 3 ∧ b = k ∧ (i = 11 ∨ i = 12)) → ¬ (a = 17 ∧ b = k ∧ i = ((t + l) % 61).toNat) → ¬ (a = 4 ∧ b = k ∧ i = 3) → S'.1 a b i = S.1 a b i) := by
  unfold f_X6_letLeave f_X6_letLeave_59
  rw [s_at' hj.2 h1 hk, b1s, h11, q_1, q_sub]
  generalize hS1 : wI (wI S 3 k 11 (i32 (w - 1))) 3 k 12 0 = S1
  have f1 : ∀ a b i, ¬ (a = 3 ∧ b = k ∧ (i = 11 ∨ i = 12)) → S1.1 a b i = S.1 a b i := fun a b i q1 => by rw [← hS1, w_ne (by omega), w_ne (by omega)]
  have g1 : S1.1 3 k 11 = i32 (w - 1) := by rw [← hS1, w_ne (by omega), w_eq]
  have g2 : S1.1 3 k 12 = i32 0 := by rw [← hS1, w_eq]; rfl
  rw [s_isLast hj ((f1 _ _ _ (by omega)).trans h1) (by omega), b1s, f1 _ _ _ (by omega), f1 6 0 4 (by omega), h6, h64, q_add]
  by_cases e : k + 1 = cJ C
  · rw [boT (decide_eq_true (by omega))]
    exact ⟨_, rfl, (w_ne (by omega)).trans g1, (w_ne (by omega)).trans g2, fun _ => ⟨w_eq, fun a b i q1 q2 => (w_ne (by omega)).trans (f1 a b i q1)⟩, fun z => absurd z (by omega)⟩
  · obtain ⟨n1, n2, n3, n4⟩ := hn (by omega)
    rw [boF (decide_eq_false (by omega)), s_send ⟨ht.1, by omega⟩ ⟨n3, n4⟩ ((f1 _ _ _ (by omega)).trans n2), b2s]
    refine ⟨_, rfl, ?_, ?_, fun z => absurd z e, fun _ => ⟨?_, ?_, fun a b i q1 q2 q3 => ?_⟩⟩
    · rw [w_ne (by omega), w_ne (by omega), g1]
    · rw [w_ne (by omega), w_ne (by omega), g2]
    · rw [w_eq, f1 _ _ _ (by omega), n1, q_1, q_add]
    · rw [w_ne (by omega), w_eq, f1 _ _ _ (by omega)]
      rfl
    · rw [w_ne (by omega), w_ne (by omega), f1 _ _ _ q1]
end LV2
