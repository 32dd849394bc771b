/-! run: vehicles that come to the end of their link. -/
def lnd (K : Int) : List Int → List Int
  | [] => []
  | e :: w => if e = K then w else e :: w
def lnN (K : Int) : List Int → Int
  | [] => 0
  | e :: _ => if e = K then 1 else 0
theorem lnd_sub {K : Int} {w : List Int} {e : Int} (h : e ∈ lnd K w) : e ∈ w := by
  cases w with
  | nil => exact h
  | cons a w =>
    rw [lnd] at h
    split at h
    · exact List.mem_cons_of_mem _ h
    · exact h
theorem lnd_pw {K : Int} {w : List Int} (h : w.Pairwise (· < ·)) : (lnd K w).Pairwise (· < ·) := by
  cases w with
  | nil => exact h
  | cons a w =>
    rw [lnd]
    split
    · exact (List.pairwise_cons.mp h).2
    · exact h
theorem lnd_gt {K : Int} {w : List Int} (h : w.Pairwise (· < ·)) (hb : ∀ e, e ∈ w → K ≤ e) {e : Int} (he : e ∈ lnd K w) : K + 1 ≤ e := by
  cases w with
  | nil => exact absurd he (by rw [lnd]; exact List.not_mem_nil)
  | cons a w =>
    have hp := List.pairwise_cons.mp h
    have ha := hb a List.mem_cons_self
    rw [lnd] at he
    by_cases h1 : a = K
    · rw [if_pos h1] at he
      have := hp.1 e he
      omega
    · rw [if_neg h1] at he
      rcases List.mem_cons.mp he with e1 | e1
      · omega
      · have := hp.1 e e1; omega
theorem lnd_len (K : Int) (w : List Int) : ((lnd K w).length : Int) = w.length - lnN K w ∧ 0 ≤ lnN K w ∧ lnN K w ≤ 1 := by
  cases w with
  | nil => rw [lnd, lnN]; exact ⟨rfl, by omega, by omega⟩
  | cons a w =>
    rw [lnd, lnN]
    split
    · rw [List.length_cons]; omega
    · omega
theorem lnd_cnt {K : Int} {w : List Int} (hw : w.Pairwise (· < ·)) (hb : ∀ e, e ∈ w → K ≤ e ∧ e < K + 61) (r : Nat) : (cnt w (K % 61).toNat : Int) = lnN K w ∧ cnt (lnd K w) r = if r = (K % 61).toNat then 0 else cnt w r := by
  cases w with
  | nil => rw [lnd, lnN, cnt_nil, cnt_nil]; exact ⟨rfl, by split <;> rfl⟩
  | cons a w =>
    have h := ring_head hw hb r
    rw [lnd, lnN]
    by_cases h1 : a = K
    · rw [if_pos h1, if_pos h1, (h.1 h1).1]; exact ⟨rfl, (h.1 h1).2⟩
    · rw [if_neg h1, if_neg h1, h.2 h1]
      refine ⟨rfl, ?_⟩
      by_cases e : r = (K % 61).toNat
      · rw [if_pos e, e, h.2 h1]
      · rw [if_neg e]
section LA
variable {fu : Nat} {S SR : Mem}
theorem s_land {k : Nat} {t : Int} (ht : 0 ≤ t ∧ t < 1000000) : f_X4_land fu k (i32 t) S = some (S.1 17 k (t % 61).toNat, wI (wI S 17 k (t % 61).toNat 0) 4 k 3 (S.1 4 k 3 - S.1 17 k (t % 61).toNat)) := by
  have e1 : f_X7_modulo fu (i32 t) 61 S = some (i32 (t % 61)) := s_modulo (c := 61) (by omega) (by omega) (by omega) (by omega)
  unfold f_X4_land
  rw [e1, b1s, s_read (by omega) (by omega) (by omega), b1s, s_write (by omega) (by omega) (by omega), b2s, w_ne (by omega)]
end LA
