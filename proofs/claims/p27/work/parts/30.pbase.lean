/-! THE PURE PART: whole numbers for the machine's. -/
def i32 (a : Int) : Int32 := Int32.ofInt a
def bo (b : Bool) : Int32 := if b = true then 1 else 0
theorem q_lit (n : Nat) : (OfNat.ofNat n : Int32) = i32 (n : Int) := (Int32.ofInt_eq_ofNat (n := n)).symm
theorem q_ofNat (n : Nat) : Int32.ofNat n = i32 (n : Int) := (Int32.ofInt_eq_ofNat (n := n)).symm
theorem q_0 : (0 : Int32) = i32 0 := rfl
theorem q_1 : (1 : Int32) = i32 1 := rfl
theorem q_m1 : (-1 : Int32) = i32 (-1) := by decide +kernel
theorem q_add (a b : Int) : i32 a + i32 b = i32 (a + b) := (Int32.ofInt_add a b).symm
theorem q_sub (a b : Int) : i32 a - i32 b = i32 (a - b) := (Int32.ofInt_sub a b).symm
theorem q_mul (a b : Int) : i32 a * i32 b = i32 (a * b) := (Int32.ofInt_mul a b).symm
theorem q_neg (a : Int) : -i32 a = i32 (-a) := (Int32.ofInt_neg a).symm
theorem q_toInt {a : Int} (h1 : -2147483648 ≤ a) (h2 : a < 2147483648) : (i32 a).toInt = a := Int32.toInt_ofInt_of_le h1 h2
theorem q_lt {a b : Int} (h1 : -2147483648 ≤ a) (h2 : a < 2147483648) (h3 : -2147483648 ≤ b) (h4 : b < 2147483648) : i32 a < i32 b ↔ a < b := by
  rw [Int32.lt_iff_toInt_lt, q_toInt h1 h2, q_toInt h3 h4]
theorem q_le {a b : Int} (h1 : -2147483648 ≤ a) (h2 : a < 2147483648) (h3 : -2147483648 ≤ b) (h4 : b < 2147483648) : i32 a ≤ i32 b ↔ a ≤ b := by
  rw [Int32.le_iff_toInt_le, q_toInt h1 h2, q_toInt h3 h4]
theorem q_eq {a b : Int} (h1 : -2147483648 ≤ a) (h2 : a < 2147483648) (h3 : -2147483648 ≤ b) (h4 : b < 2147483648) : i32 a = i32 b ↔ a = b := by
  rw [← Int32.toInt_inj, q_toInt h1 h2, q_toInt h3 h4]
theorem q_nat {a : Int} (h1 : -2147483648 ≤ a) (h2 : a < 2147483648) : (i32 a).toNatClampNeg = a.toNat := Int32.toNatClampNeg_ofInt_of_le h1 h2
theorem q_inb {a : Int} {n : Nat} (h1 : 0 ≤ a) (h2 : a < n) (h3 : n < 2147483648) : inb (i32 a) n = true := by
  unfold inb
  rw [q_toInt (by omega) (by omega)]
  exact decide_eq_true ⟨h1, h2⟩
theorem q_self (x : Int32) : i32 x.toInt = x := Int32.ofInt_toInt x
theorem q_rng (x : Int32) : -2147483648 ≤ x.toInt ∧ x.toInt < 2147483648 := ⟨x.le_toInt, x.toInt_lt⟩
theorem q_div {a b : Int} (h1 : -2147483648 ≤ a) (h2 : a < 2147483648) (h3 : 0 < b) (h4 : b < 2147483648) : i32 a / i32 b = i32 (a.tdiv b) := by
  apply Int32.toInt_inj.mp
  have e := Int32.toInt_div_of_ne_right (i32 a) (i32 b) (by
    rw [q_m1]
    exact fun h => absurd ((q_eq (by omega) h4 (by omega) (by omega)).mp h) (by omega))
  rw [e, q_toInt h1 h2, q_toInt (by omega) h4]
  have hb := Int.natAbs_tdiv a b
  have h5 : (a.tdiv b).natAbs ≤ a.natAbs := by rw [hb]; exact Nat.div_le_self _ _
  by_cases ha : 0 ≤ a
  · have := Int.tdiv_nonneg ha (Int.le_of_lt h3)
    exact (q_toInt (by omega) (by omega)).symm
  · have h6 : a.tdiv b ≤ 0 := by
      rw [show a = -(-a) by omega, Int.neg_tdiv]
      have := Int.tdiv_nonneg (show 0 ≤ -a by omega) (Int.le_of_lt h3)
      omega
    exact (q_toInt (by omega) (by omega)).symm
theorem q_quot {a c : Int} (h : 0 ≤ a) : a.tdiv c = a / c := Int.tdiv_eq_ediv_of_nonneg h
theorem gdt {α : Type} {b : Bool} {a : Option α} (h : b = true) : gd b a = a := if_pos h
theorem b1s {α β : Type} {a : α} {K : α → Option β} : b1 (some a) K = K a := rfl
theorem b2s {α β : Type} {a : α} {S : Mem} {K : α → Mem → Option β} : b2 (some (a, S)) K = K a S := rfl
theorem bxr {α γ : Type} {a : α} {T : Nat → γ} {K : α → Option γ} : bx (some (.inr a)) T K = K a := rfl
theorem bxl {α γ : Type} {e : Nat} {T : Nat → γ} {K : α → Option γ} : bx (some (.inl e)) T K = some (T e) := rfl
theorem bo_t : bo true = 1 := rfl
theorem bo_f : bo false = 0 := rfl
theorem nb_bo (b : Bool) : nb (bo b) = bo b := by cases b <;> decide +kernel
theorem bo_0 (b : Bool) : bo b = 0 ↔ b = false := by cases b <;> decide +kernel
theorem nb_0 : nb 0 = 0 := by decide +kernel
theorem nb_1 : nb 1 = 1 := by decide +kernel
theorem emod_of {a c q r : Int} (h : a = c * q + r) (h0 : 0 ≤ r) (h1 : r < c) : a % c = r := by
  rw [h, Int.mul_add_emod_self_left]
  exact Int.emod_eq_of_lt h0 h1
theorem s_rem {a c : Int} (h1 : -2147483648 ≤ a) (h2 : a < 2147483648) (h3 : 0 < c) (h4 : c < 2147483648) : i32 a - i32 a / i32 c * i32 c = i32 (a.tmod c) := by
  rw [q_div h1 h2 h3 h4, q_mul, q_sub]
  congr 1
  have := Int.tmod_add_mul_tdiv a c
  rw [Int.mul_comm c] at this
  omega
theorem s_modulo {fu : Nat} {a c : Int} {S : Mem} (h1 : -2147483648 ≤ a) (h2 : a < 2147483648) (h3 : 0 < c) (h4 : c < 1073741824) : f_X7_modulo fu (i32 a) (i32 c) S = some (i32 (a % c)) := by
  have hq := Int.tmod_add_mul_tdiv a c
  have hl := Int.tmod_lt_of_pos a h3
  have hg := Int.lt_tmod_of_pos a h3
  unfold f_X7_modulo f_X7_modulo_21
  rw [q_0, if_pos ((q_lt (by omega) (by omega) (by omega) (by omega)).mpr h3), s_rem h1 h2 h3 (by omega)]
  have hne : (!(i32 c == i32 0)) = true := by
    rw [Bool.not_eq_true', beq_eq_false_iff_ne]
    exact fun h => absurd ((q_eq (by omega) (by omega) (by omega) (by omega)).mp h) (by omega)
  rw [gdt hne]
  by_cases h0 : 0 ≤ a.tmod c
  · rw [if_pos ((q_le (by omega) (by omega) (by omega) (by omega)).mpr h0), emod_of (q := a.tdiv c) (by omega) h0 hl]
  · rw [if_neg (fun h => h0 ((q_le (by omega) (by omega) (by omega) (by omega)).mp h)), q_add, emod_of (q := a.tdiv c - 1) (r := a.tmod c + c) (by rw [Int.mul_sub]; omega) (by omega) (by omega)]
theorem nI_i (n : Nat) : nI n = i32 (n : Int) := q_ofNat n
theorem s_read {fu ck len k : Nat} {a : Int} {S : Mem} (h0 : 0 ≤ a) (h1 : a < len) (h2 : len < 2147483648) : f_X7_read fu ck len k (i32 a) S = some (S.1 ck k a.toNat) := by
  unfold f_X7_read f_X7_read_17
  rw [q_0, nI_i, if_neg (fun h => absurd ((q_lt (by omega) (by omega) (by omega) (by omega)).mp h) (by omega)), if_neg (fun h => absurd ((q_le (by omega) (by omega) (by omega) (by omega)).mp h) (by omega)), gdt (q_inb h0 h1 h2), q_nat (by omega) (by omega)]
theorem s_write {fu ck len k : Nat} {a : Int} {v : Int32} {S : Mem} (h0 : 0 ≤ a) (h1 : a < len) (h2 : len < 2147483648) : f_X7_write fu ck len k (i32 a) v S = some ((), wI S ck k a.toNat v) := by
  unfold f_X7_write f_X7_write_14
  rw [q_0, nI_i, if_neg (fun h => absurd ((q_lt (by omega) (by omega) (by omega) (by omega)).mp h) (by omega)), if_neg (fun h => absurd ((q_le (by omega) (by omega) (by omega) (by omega)).mp h) (by omega)), gdt (q_inb h0 h1 h2), q_nat (by omega) (by omega)]
theorem bit_tab : ∀ s : Fin 16, ∀ m : Fin 4, ((i32 (s.val : Int) >>> (i32 (m.val : Int) &&& 31)) &&& 1) = bo (s.val.testBit m.val) := by decide +kernel
theorem bit_of {s m : Nat} (hs : s < 16) (hm : m < 4) : ((i32 (s : Int) >>> (i32 (m : Int) &&& 31)) &&& 1) = bo (s.testBit m) := bit_tab ⟨s, hs⟩ ⟨m, hm⟩
theorem s_hasBit {fu s m : Nat} {S : Mem} (hs : s < 16) (hm : m < 4) : f_X7_hasBit fu (i32 (s : Int)) (i32 (m : Int)) S = some (bo (s.testBit m)) := by
  unfold f_X7_hasBit f_X7_hasBit_13
  rw [bit_of hs hm]
  cases s.testBit m <;> rfl
theorem s_isOutside {fu : Nat} {a b c : Int} {S : Mem} (ha1 : -2147483648 ≤ a) (ha2 : a < 2147483648) (hb1 : -2147483648 ≤ b) (hb2 : b < 2147483648) (hc1 : -2147483648 ≤ c) (hc2 : c < 2147483648) : f_X7_isOutside fu (i32 a) (i32 b) (i32 c) S = some (bo (!decide (b ≤ a ∧ a ≤ c))) := by
  unfold f_X7_isOutside f_X7_isOutside_10 f_X7_isOutside_15
  by_cases h : a < b
  · rw [if_pos ((q_lt ha1 ha2 hb1 hb2).mpr h), decide_eq_false (by omega)]; rfl
  · rw [if_neg (fun z => h ((q_lt ha1 ha2 hb1 hb2).mp z))]
    by_cases h' : a ≤ c
    · rw [if_pos ((q_le ha1 ha2 hc1 hc2).mpr h'), decide_eq_true (by omega)]; rfl
    · rw [if_neg (fun z => h' ((q_le ha1 ha2 hc1 hc2).mp z)), decide_eq_false (by omega)]; rfl
