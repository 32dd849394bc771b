/-! A bus: the seconds of green behind, what is above the least green. -/
theorem pha_inv {g c : Nat → Int} : ∀ (d p : Nat) (X : Int) (q : Nat), sms (gcs g c) p ≤ X → pha g c d p (X - sms (gcs g c) p) = (q : Int) → sms (gcs g c) q ≤ X ∧ X < sms (gcs g c) q + g q
  | 0, p, X, q, _, h => by
    have h : (-1 : Int) = (q : Int) := h
    omega
  | d + 1, p, X, q, hX, h => by
    rw [pha] at h
    by_cases e : X - sms (gcs g c) p < g p
    · rw [if_pos e] at h
      have : p = q := by omega
      subst this
      omega
    · rw [if_neg e] at h
      by_cases e2 : X - sms (gcs g c) p < g p + c p
      · rw [if_pos e2] at h
        omega
      · rw [if_neg e2] at h
        have e3 : sms (gcs g c) (p + 1) = sms (gcs g c) p + (g p + c p) := rfl
        refine pha_inv d (p + 1) X q (by omega) ?_
        rw [e3, show X - (sms (gcs g c) p + (g p + c p)) = X - sms (gcs g c) p - (g p + c p) by omega]
        exact h
section BB
variable {fu k : Nat} {s : Nat → Nat} {c f : Nat → Int} {cy o t : Int} {S : Mem}
theorem s_bh12 (ho : okJ s c f cy) (h0 : 0 ≤ lef s c cy) (hJ : SJ S k s c f cy) (hP : PLN S k s c f cy) (h9 : S.1 3 k 9 = i32 o) (hoo : 0 ≤ o ∧ o < cy) (ht : 0 ≤ t ∧ t < 1000000) {p : Nat} (hp : p < mny s) : ∀ d q n : Nat, q + d = p → d < n → f_X3_secondsOfGreenBehind_12 fu k (i32 (p : Int)) (i32 t) S n (i32 (grn s c f cy p + sms (gcs (grn s c f cy) (clr s c)) q)) (i32 (q : Int)) = some (i32 (sms (gcs (grn s c f cy) (clr s c)) p + grn s c f cy p - 1 - (t - o) % cy)) := by
  intro d
  have hcy := ho.2.2.2
  have hmn := mny_le s
  have hx1 := Int.emod_nonneg (t - o) (show cy ≠ 0 by omega)
  have hx2 := Int.emod_lt_of_pos (t - o) (show 0 < cy by omega)
  have hg := grn_b (f := f) ho h0 hp
  induction d with
  | zero =>
    intro q n hq hn
    obtain ⟨n, rfl⟩ : ∃ n', n = n' + 1 := ⟨n - 1, by omega⟩
    have : q = p := by omega
    subst this
    rw [f_X3_secondsOfGreenBehind_12, leT (by omega) (by omega) (by omega), s_place hJ.2.1 h9 (by omega) (by omega) ht, b1s, q_1, q_sub, q_sub]
    congr 2
    omega
  | succ d ih =>
    intro q n hq hn
    obtain ⟨n, rfl⟩ : ∃ n', n = n' + 1 := ⟨n - 1, by omega⟩
    have hb := gsum_b (f := f) h0 q (by omega)
    rw [f_X3_secondsOfGreenBehind_12, leF (by omega) (by omega) (by omega), s_read (by omega) (by omega) (by omega), b1s, s_read (by omega) (by omega) (by omega), b1s, show ((q : Int)).toNat = q by omega, (hP.2.2 h0).1 q (by omega), hP.1 q (by omega), q_add, q_add, q_1, q_add]
    have e : grn s c f cy p + sms (gcs (grn s c f cy) (clr s c)) q + (grn s c f cy q + clr s c q) = grn s c f cy p + sms (gcs (grn s c f cy) (clr s c)) (q + 1) := by
      show _ = grn s c f cy p + (sms (gcs (grn s c f cy) (clr s c)) q + (grn s c f cy q + clr s c q)); omega
    rw [e]
    exact ih (q + 1) n (by omega) (by omega)
theorem s_behind (hfu : 8 ≤ fu) (ho : okJ s c f cy) (h0 : 0 ≤ lef s c cy) (hJ : SJ S k s c f cy) (hP : PLN S k s c f cy) (h9 : S.1 3 k 9 = i32 o) (hoo : 0 ≤ o ∧ o < cy) (ht : 0 ≤ t ∧ t < 1000000) {p : Nat} (hp : p < mny s) : f_X3_secondsOfGreenBehind fu k (i32 (p : Int)) (i32 t) S = some (i32 (sms (gcs (grn s c f cy) (clr s c)) p + grn s c f cy p - 1 - (t - o) % cy)) := by
  have hmn := mny_le s
  unfold f_X3_secondsOfGreenBehind
  rw [s_read (by omega) (by omega) (by omega), b1s, show ((p : Int)).toNat = p by omega, (hP.2.2 h0).1 p hp, q_0]
  have := s_bh12 (fu := fu) ho h0 hJ hP h9 hoo ht hp p 0 fu (by omega) (by omega)
  rw [show grn s c f cy p + sms (gcs (grn s c f cy) (clr s c)) 0 = grn s c f cy p from Int.add_zero _] at this
  exact this
theorem s_spare (ho : okJ s c f cy) (h0 : 0 ≤ lef s c cy) (hJ : SJ S k s c f cy) (hP : PLN S k s c f cy) {p : Nat} (hp : p < mny s) : f_X3_spareGreen fu k (i32 (p : Int)) S = some (i32 (grn s c f cy p - lst s p)) := by
  have hmn := mny_le s
  unfold f_X3_spareGreen
  rw [s_read (by omega) (by omega) (by omega), b1s, show ((p : Int)).toNat = p by omega, (hP.2.2 h0).1 p hp, s_leastGreen hJ ho (by omega), b1s, q_sub]
end BB
