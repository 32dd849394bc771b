/-! sets of seconds: two longs. -/
theorem l_eq {S : Mem} {c k j : Nat} {v : Int64} : (wL S c k j v).2 c k j = v := if_pos ⟨rfl, rfl, rfl⟩
theorem l_ne {S : Mem} {c k j a b i : Nat} {v : Int64} (h : ¬ (a = c ∧ b = k ∧ i = j)) : (wL S c k j v).2 a b i = S.2 a b i := if_neg h
def SG (S : Mem) (i : Nat) (P : Nat → Bool) : Prop := (∀ t, t < 64 → bb (S.2 5 i 0) t = P t) ∧ ∀ t, t < 64 → bb (S.2 5 i 1) t = P (64 + t)
theorem SG.fr {S S' : Mem} {i : Nat} {P : Nat → Bool} (h : SG S i P) (hf : ∀ j, S'.2 5 i j = S.2 5 i j) : SG S' i P := ⟨fun t ht => by rw [hf]; exact h.1 t ht, fun t ht => by rw [hf]; exact h.2 t ht⟩
theorem SG.cg {S : Mem} {i : Nat} {P Q : Nat → Bool} (h : SG S i P) (e : ∀ t, t < 128 → P t = Q t) : SG S i Q := ⟨fun t ht => (h.1 t ht).trans (e t (by omega)), fun t ht => (h.2 t ht).trans (e (64 + t) (by omega))⟩
theorem bb_and (x y : Int64) (t : Nat) : bb (x &&& y) t = (bb x t && bb y t) := by
  unfold bb
  rw [Int64.toBitVec_and, BitVec.getLsbD_and]
theorem bb_or (x y : Int64) (t : Nat) : bb (x ||| y) t = (bb x t || bb y t) := by
  unfold bb
  rw [Int64.toBitVec_or, BitVec.getLsbD_or]
theorem bb_one_tab : ∀ s : Fin 64, ((1 : Int64) <<< ((i32 (s.val : Int)).toInt64 &&& 63)).toBitVec.toNat = 2 ^ s.val := by decide +kernel
theorem bb_one {s t : Nat} (hs : s < 64) : bb ((1 : Int64) <<< ((i32 (s : Int)).toInt64 &&& 63)) t = decide (t = s) := by
  unfold bb BitVec.getLsbD
  rw [bb_one_tab ⟨s, hs⟩]
  show (2 ^ s).testBit t = _
  rw [Nat.testBit_two_pow]
  exact decide_eq_decide.mpr ⟨fun h => h.symm, fun h => h.symm⟩
theorem bb_not {x : Int64} {t : Nat} (ht : t < 64) : bb (x ^^^ (-1)) t = !bb x t := by
  unfold bb
  rw [Int64.toBitVec_xor, BitVec.getLsbD_xor]
  have e : ((-1 : Int64)).toBitVec = BitVec.allOnes 64 := by decide +kernel
  rw [e, BitVec.getLsbD_allOnes, decide_eq_true ht, Bool.xor_true]
theorem shr_tab : ∀ s : Fin 64, (((i32 (s.val : Int)).toInt64.toUInt64 &&& Int64.toUInt64 63).toBitVec % 64).toNat = s.val := by decide +kernel
theorem bb_shr {x : Int64} {s t : Nat} (hs : s < 64) : bb ((x.toUInt64 >>> ((i32 (s : Int)).toInt64.toUInt64 &&& Int64.toUInt64 63)).toInt64) t = bb x (s + t) := by
  unfold bb
  rw [UInt64.toBitVec_toInt64, UInt64.toBitVec_shiftRight, Int64.toBitVec_toUInt64, BitVec.ushiftRight_eq', BitVec.getLsbD_ushiftRight]
  rw [shr_tab ⟨s, hs⟩]
theorem bb_shl1 {x : Int64} {t : Nat} (ht : t < 64) : bb (x <<< ((1 : Int32).toInt64 &&& 63)) t = (decide (1 ≤ t) && bb x (t - 1)) := by
  unfold bb
  have e : ((1 : Int32).toInt64 &&& 63).toBitVec.smod 64 = 1#64 := by decide +kernel
  rw [Int64.toBitVec_shiftLeft, e, BitVec.shiftLeft_eq', BitVec.getLsbD_shiftLeft, decide_eq_true ht, Bool.true_and]
  have e1 : (1#64).toNat = 1 := rfl
  rw [e1]
  congr 1
  by_cases h : t < 1
  · rw [decide_eq_true h, decide_eq_false (by omega)]; rfl
  · rw [decide_eq_false h, decide_eq_true (by omega)]; rfl
theorem bb_ge {x : Int64} {t : Nat} (ht : 64 ≤ t) : bb x t = false := BitVec.getLsbD_of_ge _ _ ht
theorem bb_0 (t : Nat) : bb 0 t = false := by
  unfold bb
  exact BitVec.getLsbD_zero
theorem bb_1 (t : Nat) : bb 1 t = decide (t = 0) := by
  have := bb_one (s := 0) (t := t) (by omega)
  have e : (1 : Int64) <<< ((i32 ((0 : Nat) : Int)).toInt64 &&& 63) = 1 := by decide +kernel
  rw [e] at this
  exact this
theorem bb_low {x : Int64} : lg_cmp (x &&& 1) 0 = 0 ↔ bb x 0 = false := by
  have h1 : x &&& 1 = if bb x 0 = true then 1 else 0 := by
    apply Int64.toBitVec_inj.mp
    apply BitVec.eq_of_getLsbD_eq
    intro i hi
    have e := bb_and x 1 i
    rw [bb_1] at e
    have e2 : (x &&& 1).toBitVec.getLsbD i = (bb x i && decide (i = 0)) := e
    rw [e2]
    by_cases h : i = 0
    · rw [decide_eq_true h, Bool.and_true, h]
      cases bb x 0 with
      | false => exact (bb_0 0).symm
      | true => exact (bb_1 0).symm
    · rw [decide_eq_false h, Bool.and_false]
      cases bb x 0 with
      | false => exact (bb_0 i).symm
      | true => exact ((bb_1 i).trans (decide_eq_false h)).symm
  rw [h1]
  cases bb x 0 with
  | false => exact ⟨fun _ => rfl, fun _ => by decide +kernel⟩
  | true => exact ⟨fun h => absurd h (by decide +kernel), fun h => by cases h⟩
theorem q_64 : (64 : Int32) = i32 64 := rfl
section SE
variable {fu : Nat} {S : Mem}
theorem s_clear5 (k : Nat) : ∃ S' : Mem, f_X5_clear fu k S = some ((), S') ∧ S'.1 = S.1 ∧ SG S' k (fun _ => false) ∧ ∀ i j, i ≠ k → S'.2 5 i j = S.2 5 i j := by
  refine ⟨_, rfl, rfl, ⟨fun t ht => ?_, fun t ht => ?_⟩, fun i j h => ?_⟩
  · rw [l_ne (by omega), l_eq]; exact bb_0 t
  · rw [l_eq]; exact bb_0 _
  · rw [l_ne (by omega), l_ne (by omega)]
theorem s_add5 {k s : Nat} {P : Nat → Bool} (hs : s < 128) (h : SG S k P) : ∃ S' : Mem, f_X5_add fu k (i32 (s : Int)) S = some ((), S') ∧ S'.1 = S.1 ∧ SG S' k (fun t => P t || decide (t = s)) ∧ ∀ i j, i ≠ k → S'.2 5 i j = S.2 5 i j := by
  unfold f_X5_add f_X5_add_36
  rw [q_64]
  by_cases e : 64 ≤ s
  · have e1 : i32 (s : Int) - i32 64 = i32 ((s - 64 : Nat) : Int) := by
      rw [q_sub]; congr 1; omega
    rw [leT (by omega) (by omega) (by omega), e1]
    refine ⟨_, rfl, rfl, ⟨fun t ht => ?_, fun t ht => ?_⟩, fun i j h => l_ne (by omega)⟩
    · dsimp only
      rw [l_ne (by omega), h.1 t ht, decide_eq_false (by omega), Bool.or_false]
    · rw [l_eq, bb_or, h.2 t ht, bb_one (by omega)]
      congr 1
      exact decide_eq_decide.mpr (by omega)
  · rw [leF (by omega) (by omega) (by omega)]
    refine ⟨_, rfl, rfl, ⟨fun t ht => ?_, fun t ht => ?_⟩, fun i j h => l_ne (by omega)⟩
    · rw [l_eq, bb_or, h.1 t ht, bb_one (by omega)]
    · dsimp only
      rw [l_ne (by omega), h.2 t ht, decide_eq_false (by omega), Bool.or_false]
theorem s_rem5 {k s : Nat} {P : Nat → Bool} (hs : s < 128) (h : SG S k P) : ∃ S' : Mem, f_X5_remove fu k (i32 (s : Int)) S = some ((), S') ∧ S'.1 = S.1 ∧ SG S' k (fun t => P t && !decide (t = s)) ∧ ∀ i j, i ≠ k → S'.2 5 i j = S.2 5 i j := by
  unfold f_X5_remove f_X5_remove_44
  rw [q_64]
  by_cases e : 64 ≤ s
  · have e1 : i32 (s : Int) - i32 64 = i32 ((s - 64 : Nat) : Int) := by
      rw [q_sub]; congr 1; omega
    rw [leT (by omega) (by omega) (by omega), e1]
    refine ⟨_, rfl, rfl, ⟨fun t ht => ?_, fun t ht => ?_⟩, fun i j h => l_ne (by omega)⟩
    · dsimp only
      rw [l_ne (by omega), h.1 t ht, decide_eq_false (by omega), Bool.not_false, Bool.and_true]
    · rw [l_eq, bb_and, h.2 t ht, bb_not ht, bb_one (by omega)]
      congr 2
      exact decide_eq_decide.mpr (by omega)
  · rw [leF (by omega) (by omega) (by omega)]
    refine ⟨_, rfl, rfl, ⟨fun t ht => ?_, fun t ht => ?_⟩, fun i j h => l_ne (by omega)⟩
    · rw [l_eq, bb_and, h.1 t ht, bb_not ht, bb_one (by omega)]
    · dsimp only
      rw [l_ne (by omega), h.2 t ht, decide_eq_false (by omega), Bool.not_false, Bool.and_true]
theorem s_has5 {k s : Nat} {P : Nat → Bool} (hs : s < 128) (h : SG S k P) : f_X5_has fu k (i32 (s : Int)) S = some (bo (P s)) := by
  have go : ∀ x : Int64, f_X5_has_24 fu k (i32 (s : Int)) S x = some (bo (bb x 0)) := fun x => by
    unfold f_X5_has_24 f_X5_has_38
    cases hx : bb x 0 with
    | false => rw [if_pos (bb_low.mpr hx), nb_0]; rfl
    | true => rw [if_neg (fun z => by rw [bb_low, hx] at z; cases z), nb_1]; rfl
  unfold f_X5_has
  rw [go, go, q_64]
  by_cases e : 64 ≤ s
  · have e1 : i32 (s : Int) - i32 64 = i32 ((s - 64 : Nat) : Int) := by
      rw [q_sub]; congr 1; omega
    rw [leT (by omega) (by omega) (by omega), e1, bb_shr (by omega), Nat.add_zero, h.2 _ (by omega), show 64 + (s - 64) = s by omega]
  · rw [leF (by omega) (by omega) (by omega), bb_shr (by omega), Nat.add_zero, h.1 _ (by omega)]
theorem s_turn5 {k n : Nat} {P : Nat → Bool} (hn : 1 ≤ n ∧ n < 128) (h : SG S k P) : ∃ S' : Mem, f_X5_turn fu k (i32 (n : Int)) S = some ((), S') ∧ S'.1 = S.1 ∧ SG S' k (fun t => (if t = 0 then P (n - 1) else P (t - 1)) && !decide (t = n)) ∧ ∀ i j, i ≠ k → S'.2 5 i j = S.2 5 i j := by
  have e1 : i32 (n : Int) - 1 = i32 ((n - 1 : Nat) : Int) := by
    rw [q_1, q_sub]; congr 1; omega
  have go : ∀ x : Int64, (∀ t, bb x t = (decide (t = 0) && P (n - 1))) → ∃ S' : Mem, f_X5_turn_15 fu k (i32 (n : Int)) x S = some ((), S') ∧ S'.1 = S.1 ∧ SG S' k (fun t => (if t = 0 then P (n - 1) else P (t - 1)) && !decide (t = n)) ∧ ∀ i j, i ≠ k → S'.2 5 i j = S.2 5 i j := fun x hx => by
    unfold f_X5_turn_15
    rw [l_ne (by omega)]
    have e63 : ∀ y : Int64, (y.toUInt64 >>> ((63 : Int32).toInt64.toUInt64 &&& Int64.toUInt64 63)).toInt64 = (y.toUInt64 >>> ((i32 ((63 : Nat) : Int)).toInt64.toUInt64 &&& Int64.toUInt64 63)).toInt64 := fun y => rfl
    rw [e63]
    obtain ⟨S', s1, s2, s3, s4⟩ := s_rem5 (fu := fu) (S := wL (wL S 5 k 1 (((S.2 5 k 1) <<< ((1 : Int32).toInt64 &&& 63)) ||| (((S.2 5 k 0)).toUInt64 >>> ((i32 ((63 : Nat) : Int)).toInt64.toUInt64 &&& Int64.toUInt64 63)).toInt64)) 5 k 0 ((S.2 5 k 0) <<< ((1 : Int32).toInt64 &&& 63) ||| x)) (k := k) (s := n) (P := fun t => if t = 0 then P (n - 1) else P (t - 1)) hn.2 ⟨fun t ht => by
      dsimp only
      rw [l_eq, bb_or, bb_shl1 ht, hx]
      by_cases h0 : t = 0
      · rw [decide_eq_false (by omega), decide_eq_true h0, if_pos h0, Bool.false_and, Bool.true_and, Bool.false_or]
      · rw [decide_eq_true (by omega), decide_eq_false h0, if_neg h0, Bool.false_and, Bool.true_and, Bool.or_false, h.1 _ (by omega)], fun t ht => by
      dsimp only
      rw [l_ne (by omega), l_eq, bb_or, bb_shl1 ht, bb_shr (by omega), if_neg (by omega)]
      by_cases h0 : t = 0
      · rw [h0, decide_eq_false (by omega), Bool.false_and, Bool.false_or, h.1 _ (by omega)]
      · rw [decide_eq_true (by omega), bb_ge (show 64 ≤ 63 + t by omega), Bool.or_false, Bool.true_and, h.2 _ (by omega), show 64 + (t - 1) = 64 + t - 1 by omega]⟩
    rw [s1, b2s]
    exact ⟨S', rfl, s2, s3, fun i j hi => by rw [s4 i j hi, l_ne (by omega), l_ne (by omega)]⟩
  unfold f_X5_turn
  rw [e1, s_has5 (by omega) h, b1s]
  cases hp : P (n - 1) with
  | false =>
    rw [boF rfl]
    rw [hp] at go
    exact go 0 (fun t => by rw [bb_0, Bool.and_false])
  | true =>
    rw [boT rfl]
    rw [hp] at go
    exact go 1 (fun t => by rw [bb_1, Bool.and_true])
theorem s_com5 {k i1 i2 : Nat} {P Q : Nat → Bool} (h1 : SG S i1 P) (h2 : SG S i2 Q) : ∃ S' : Mem, f_X5_becomeCommon fu k i1 i2 S = some ((), S') ∧ S'.1 = S.1 ∧ SG S' k (fun t => P t && Q t) ∧ ∀ i j, i ≠ k → S'.2 5 i j = S.2 5 i j := by
  unfold f_X5_becomeCommon
  rw [l_ne (by omega), l_ne (by omega)]
  refine ⟨_, rfl, rfl, ⟨fun t ht => ?_, fun t ht => ?_⟩, fun i j h => ?_⟩
  · rw [l_ne (by omega), l_eq, bb_and, h1.1 t ht, h2.1 t ht]
  · rw [l_eq, bb_and, h1.2 t ht, h2.2 t ht]
  · rw [l_ne (by omega), l_ne (by omega)]
theorem s_cnt5 {k i : Nat} {P Q : Nat → Bool} (h1 : SG S k P) (h2 : SG S i Q) : f_X5_countCommon fu k i S = some (i32 (cntF (fun t => P t && Q t) 128 0)) := by
  unfold f_X5_countCommon
  rw [s_bitc, b1s, s_bitc, b1s, q_add]
  congr 2
  rw [cntF_app _ 64 64 0]
  congr 1
  · exact cntF_congr 64 0 (fun t _ ht => by rw [bb_and, h1.1 t (by omega), h2.1 t (by omega)])
  · exact (cntF_sh 64 64 0 (fun t _ ht => by rw [bb_and, h1.2 t (by omega), h2.2 t (by omega)])).symm
end SE
