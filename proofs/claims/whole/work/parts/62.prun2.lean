/-! run: vehicles that come to the end of their link. -/
def lnd (K : Int) : List Int → List Int
  | [] => []
  | e :: w => if e = K then w else e :: w
def lnN (K : Int) : List Int → Int
  | [] => 0
  | e :: _ => if e = K then 1 else 0
theorem lnd_sub {K : Int} {w : List Int} {e : Int} (h : e ∈ lnd K w) : e ∈ w := by
  cases w with
  | nil => exact h
  | cons a w =>
    rw [lnd] at h
    split at h
    · exact List.mem_cons_of_mem _ h
    · exact h
theorem lnd_pw {K : Int} {w : List Int} (h : w.Pairwise (· < ·)) : (lnd K w).Pairwise (· < ·) := by
  cases w with
  | nil => exact h
  | cons a w =>
    rw [lnd]
    split
    · exact (List.pairwise_cons.mp h).2
    · exact h
theorem lnd_gt {K : Int} {w : List Int} (h : w.Pairwise (· < ·)) (hb : ∀ e, e ∈ w → K ≤ e) {e : Int} (he : e ∈ lnd K w) : K + 1 ≤ e := by
  cases w with
  | nil => exact absurd he (by rw [lnd]; exact List.not_mem_nil)
  | cons a w =>
    have hp := List.pairwise_cons.mp h
    have ha := hb a List.mem_cons_self
    rw [lnd] at he
    by_cases h1 : a = K
    · rw [if_pos h1] at he
      have := hp.1 e he
      omega
    · rw [if_neg h1] at he
      rcases List.mem_cons.mp he with e1 | e1
      · omega
      · have := hp.1 e e1; omega
theorem lnd_len (K : Int) (w : List Int) : ((lnd K w).length : Int) = w.length - lnN K w ∧ 0 ≤ lnN K w ∧ lnN K w ≤ 1 := by
  cases w with
  | nil => rw [lnd, lnN]; exact ⟨rfl, by omega, by omega⟩
  | cons a w =>
    rw [lnd, lnN]
    split
    · rw [List.length_cons]; omega
    · omega
theorem lnd_cnt {K : Int} {w : List Int} (hw : w.Pairwise (· < ·)) (hb : ∀ e, e ∈ w → K ≤ e ∧ e < K + 61) (r : Nat) : (cnt w (K % 61).toNat : Int) = lnN K w ∧ cnt (lnd K w) r = if r = (K % 61).toNat then 0 else cnt w r := by
  cases w with
  | nil => rw [lnd, lnN, cnt_nil, cnt_nil]; exact ⟨rfl, by split <;> rfl⟩
  | cons a w =>
    have h := ring_head hw hb r
    rw [lnd, lnN]
    by_cases h1 : a = K
    · rw [if_pos h1, if_pos h1, (h.1 h1).1]; exact ⟨rfl, (h.1 h1).2⟩
    · rw [if_neg h1, if_neg h1, h.2 h1]
      refine ⟨rfl, ?_⟩
      by_cases e : r = (K % 61).toNat
      · rw [if_pos e, e, h.2 h1]
      · rw [if_neg e]
section LA
variable {fu : Nat} {S SR : Mem}
theorem s_land {k : Nat} {t : Int} (ht : 0 ≤ t ∧ t < 1000000) : f_X4_land fu k (i32 t) S = some (S.1 17 k (t % 61).toNat, wI (wI S 17 k (t % 61).toNat 0) 4 k 3 (S.1 4 k 3 - S.1 17 k (t % 61).toNat)) := by
  have e1 : f_X7_modulo fu (i32 t) 61 S = some (i32 (t % 61)) := s_modulo (c := 61) (by omega) (by omega) (by omega) (by omega)
  unfold f_X4_land
  rw [e1, b1s, s_read (by omega) (by omega) (by omega), b1s, s_write (by omega) (by omega) (by omega), b2s, w_ne (by omega)]
theorem m_shift {K4 : Int32 → Mem → Option (Unit × Mem)} {j k m : Nat} (hj : j < 4) (hk : k < 5) (hm : m < 40) : ∀ (d i n : Nat) (S : Mem), i + d = m → d < n → S.1 32 0 j = i32 (m : Int) → ∃ S' : Mem, f_X8_joins_41 fu K4 (i32 (k : Int)) n (i32 (j : Int)) (i32 (i : Int)) S = K4 (i32 (j : Int)) (wI S' 30 0 k (S'.1 30 0 k + 1)) ∧ (∀ q, i ≤ q → q < m → S'.1 33 0 (40 * j + q) = S.1 33 0 (40 * j + q + 1)) ∧ ∀ a b c, ¬ (a = 33 ∧ b = 0 ∧ 40 * j + i ≤ c ∧ c < 40 * j + m) → S'.1 a b c = S.1 a b c := by
  intro d
  induction d with
  | zero =>
    intro i n S hi hn h32
    obtain ⟨n, rfl⟩ : ∃ n', n = n' + 1 := ⟨n - 1, by omega⟩
    rw [f_X8_joins_41, gdt (q_inb (by omega) (by omega) (by omega)), q_nat (a := (j : Int)) (by omega) (by omega), show ((j : Int)).toNat = j by omega, h32, leT (by omega) (by omega) (by omega), gdt (q_inb (by omega) (by omega) (by omega)), gdt (q_inb (by omega) (by omega) (by omega)), q_nat (by omega) (by omega), show ((k : Int)).toNat = k by omega]
    exact ⟨S, rfl, fun q h1 h2 => absurd h2 (by omega), fun _ _ _ _ => rfl⟩
  | succ d ih =>
    intro i n S hi hn h32
    obtain ⟨n, rfl⟩ : ∃ n', n = n' + 1 := ⟨n - 1, by omega⟩
    obtain ⟨S', e1, e2, e3⟩ := ih (i + 1) n (wI S 33 0 (40 * j + i) (S.1 33 0 (40 * j + i + 1))) (by omega) (by omega) ((w_ne (by omega)).trans h32)
    have ei : i32 (i : Int) + 1 = i32 ((i + 1 : Nat) : Int) := by rw [q_1, q_add]; rfl
    rw [f_X8_joins_41, gdt (q_inb (by omega) (by omega) (by omega)), q_nat (a := (j : Int)) (by omega) (by omega), show ((j : Int)).toNat = j by omega, h32, leF (by omega) (by omega) (by omega), ei, q_40, q_mul, q_add, q_1, q_add, gdt (q_inb (by omega) (by omega) (by omega)), gdt (q_inb (by omega) (by omega) (by omega)), q_nat (by omega) (by omega), q_nat (by omega) (by omega), show (40 * (j : Int) + (i : Int)).toNat = 40 * j + i by omega, show (40 * (j : Int) + (i : Int) + 1).toNat = 40 * j + i + 1 by omega, e1]
    refine ⟨S', rfl, fun q h1 h2 => ?_, fun a b c hn => ?_⟩
    · by_cases e : q = i
      · subst e
        rw [e3 _ _ _ (by omega), w_eq]
      · rw [e2 q (by omega) h2, w_ne (by omega)]
    · rw [e3 a b c (by omega), w_ne (by omega)]
theorem m_join0 {j k n : Nat} {K : Int} {w : List Int} {S : Mem} (hj : j < 4) (hl : w.length ≤ 40) (hK : 0 ≤ K ∧ K < 1000000) (h32 : S.1 32 0 j = i32 (w.length : Int)) (h33 : ∀ i, (h : i < w.length) → S.1 33 0 (40 * j + i) = i32 (w[i])) (h14 : S.1 8 0 14 = i32 K) (hb : ∀ e, e ∈ w → K < e ∧ e < 1000000) : f_X8_joins_4 fu (i32 (k : Int)) (n + 1) (i32 (j : Int)) S = some ((), S) := by
  rw [f_X8_joins_4, gdt (q_inb (by omega) (by omega) (by omega)), q_nat (a := (j : Int)) (by omega) (by omega), show ((j : Int)).toNat = j by omega, h32, q_0]
  unfold f_X8_joins_94
  cases w with
  | nil => rw [leT (by rw [List.length_nil]; omega) (by rw [List.length_nil]; omega) (by omega)]
  | cons a w =>
    have ha := hb a List.mem_cons_self
    have h0 := h33 0 (by rw [List.length_cons]; omega)
    rw [List.length_cons] at hl ⊢
    rw [List.getElem_cons_zero, Nat.add_zero] at h0
    rw [leF (by omega) (by omega) (by omega), q_40, q_mul, gdt (q_inb (by omega) (by omega) (by omega)), q_nat (by omega) (by omega), show (40 * (j : Int)).toNat = 40 * j by omega, h0, h14, eqF (by omega) (by omega) (by omega) (by omega) (by omega)]
theorem m_joins {j : Nat} {K Q : Int} {w : List Int} {S : Mem} (hfu : 100 ≤ fu) (hj : j < 4) (hl : w.length ≤ 40) (hK : 0 ≤ K ∧ K < 10000) (h32 : S.1 32 0 j = i32 (w.length : Int)) (h33 : ∀ i, (h : i < w.length) → S.1 33 0 (40 * j + i) = i32 (w[i])) (h14 : S.1 8 0 14 = i32 K) (hw : w.Pairwise (· < ·)) (hb : ∀ e, e ∈ w → K ≤ e ∧ e < 1000000) (hQ : S.1 30 0 (j + 1) = i32 Q) : ∃ S' : Mem, f_X8_joins fu (i32 ((j + 1 : Nat) : Int)) S = some ((), S') ∧ S'.1 32 0 j = i32 ((lnd K w).length : Int) ∧ (∀ i, (h : i < (lnd K w).length) → S'.1 33 0 (40 * j + i) = i32 ((lnd K w)[i])) ∧ S'.1 30 0 (j + 1) = i32 (Q + lnN K w) ∧ ∀ a b c, ¬ (a = 33 ∧ b = 0 ∧ 40 * j ≤ c ∧ c < 40 * j + 40) → ¬ (a = 32 ∧ b = 0 ∧ c = j) → ¬ (a = 30 ∧ b = 0 ∧ c = j + 1) → S'.1 a b c = S.1 a b c := by
  obtain ⟨n, rfl⟩ : ∃ n', fu = n' + 1 + 1 := ⟨fu - 2, by omega⟩
  have ej : i32 ((j + 1 : Nat) : Int) - 1 = i32 (j : Int) := by
    rw [q_1, q_sub]
    congr 1
    omega
  unfold f_X8_joins
  rw [ej]
  have hgt := fun e => lnd_gt (e := e) hw (fun e he => (hb e he).1)
  cases w with
  | nil => exact ⟨S, m_join0 (w := []) hj hl ⟨hK.1, by omega⟩ h32 h33 h14 (fun e he => absurd he List.not_mem_nil), h32, h33, (by rw [hQ, lnN, Int.add_zero]), fun _ _ _ _ _ _ => rfl⟩
  | cons a w =>
    by_cases e : a = K
    · have h0 := h33 0 (by rw [List.length_cons]; omega)
      rw [List.length_cons] at hl h32
      rw [List.getElem_cons_zero, Nat.add_zero] at h0
      have el : lnd K (a :: w) = w := by rw [lnd, if_pos e]
      have en : lnN K (a :: w) = 1 := by rw [lnN, if_pos e]
      rw [el] at hgt ⊢
      rw [en]
      have e32 : i32 ((w.length + 1 : Nat) : Int) - 1 = i32 (w.length : Int) := by
        rw [q_1, q_sub]
        congr 1
        omega
      obtain ⟨T, t1, t2, t3⟩ := m_shift (fu := n + 1 + 1) (K4 := f_X8_joins_4 (n + 1 + 1) (i32 ((j + 1 : Nat) : Int)) (n + 1)) (j := j) (k := j + 1) (m := w.length) hj (by omega) (by omega) w.length 0 (n + 1 + 1) (wI S 32 0 j (i32 (w.length : Int))) (by omega) (by omega) w_eq
      have hT33 : ∀ i, (h : i < w.length) → (wI T 30 0 (j + 1) (T.1 30 0 (j + 1) + 1)).1 33 0 (40 * j + i) = i32 (w[i]) := fun i h => by
        rw [w_ne (by omega), t2 i (by omega) h, w_ne (by omega)]
        exact h33 (i + 1) (by rw [List.length_cons]; omega)
      have hT32 : (wI T 30 0 (j + 1) (T.1 30 0 (j + 1) + 1)).1 32 0 j = i32 (w.length : Int) := by rw [w_ne (by omega), t3 _ _ _ (by omega), w_eq]
      refine ⟨wI T 30 0 (j + 1) (T.1 30 0 (j + 1) + 1), ?_, hT32, hT33, ?_, fun a b c q1 q2 q3 => ?_⟩
      · rw [f_X8_joins_4, gdt (q_inb (by omega) (by omega) (by omega)), q_nat (a := (j : Int)) (by omega) (by omega), show ((j : Int)).toNat = j by omega, h32, q_0, leF (by omega) (by omega) (by omega), q_40, q_mul, gdt (q_inb (by omega) (by omega) (by omega)), q_nat (by omega) (by omega), show (40 * (j : Int)).toNat = 40 * j by omega, h0, h14, eqT e, gdt (q_inb (by omega) (by omega) (by omega)), gdt (q_inb (by omega) (by omega) (by omega)), e32]
        refine t1.trans ?_
        exact m_join0 (w := w) hj (by omega) ⟨hK.1, by omega⟩ hT32 hT33 (by rw [w_ne (by omega), t3 _ _ _ (by omega), w_ne (by omega)]; exact h14) (fun e he => ⟨by have := hgt e he; omega, (hb e (List.mem_cons_of_mem _ he)).2⟩)
      · rw [w_eq, t3 _ _ _ (by omega), w_ne (by omega), hQ, q_1, q_add]
      · rw [w_ne (by omega), t3 _ _ _ (by omega), w_ne (by omega)]
    · have el : lnd K (a :: w) = a :: w := by rw [lnd, if_neg e]
      have en : lnN K (a :: w) = 0 := by rw [lnN, if_neg e]
      rw [el] at hgt ⊢
      rw [en, Int.add_zero]
      exact ⟨S, m_join0 (w := a :: w) hj hl ⟨hK.1, by omega⟩ h32 h33 h14 (fun e he => ⟨by have := hgt e he; omega, (hb e he).2⟩), h32, h33, hQ, fun _ _ _ _ _ _ => rfl⟩
end LA
