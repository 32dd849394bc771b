/-! bits of a long, counted. -/
def bb (x : Int64) (t : Nat) : Bool := x.toBitVec.getLsbD t
def zk (f : Nat → Nat) : Nat → Nat
  | 0 => 0
  | n + 1 => f 0 + 256 * zk (fun i => f (i + 1)) n
theorem zk_tb : ∀ (n : Nat) (f : Nat → Nat) (p : Nat), (∀ i, f i < 256) → (zk f n).testBit p = if p < 8 * n then (f (p / 8)).testBit (p % 8) else false
  | 0, f, p, _ => by rw [zk, Nat.zero_testBit, if_neg (by omega)]
  | n + 1, f, p, hf => by
    have e : zk f (n + 1) = 2 ^ 8 * zk (fun i => f (i + 1)) n + f 0 := by rw [zk]; omega
    rw [e, Nat.testBit_two_pow_mul_add _ (hf 0), zk_tb n (fun i => f (i + 1)) (p - 8) (fun i => hf (i + 1))]
    by_cases h : p < 8
    · rw [if_pos h, if_pos (by omega), show p / 8 = 0 by omega, show p % 8 = p by omega]
    · rw [if_neg h, show (p - 8) / 8 + 1 = p / 8 by omega, show (p - 8) % 8 = p % 8 by omega]
      by_cases h2 : p < 8 * (n + 1)
      · rw [if_pos h2, if_pos (by omega)]
      · rw [if_neg h2, if_neg (by omega)]
theorem zk_lt : ∀ (n : Nat) (f : Nat → Nat), (∀ i, f i < 256) → zk f n < 256 ^ n
  | 0, f, _ => by rw [zk]; omega
  | n + 1, f, hf => by
    have h1 := zk_lt n (fun i => f (i + 1)) (fun i => hf (i + 1))
    have h0 := hf 0
    rw [zk, Nat.pow_succ]
    omega
theorem zk_add : ∀ (n : Nat) (f g : Nat → Nat), zk f n + zk g n = zk (fun i => f i + g i) n
  | 0, f, g => rfl
  | n + 1, f, g => by
    have h1 := zk_add n (fun i => f (i + 1)) (fun i => g (i + 1))
    rw [zk, zk, zk, ← h1]
    omega
theorem zk_congr : ∀ (n : Nat) (f g : Nat → Nat), (∀ i, i < n → f i = g i) → zk f n = zk g n
  | 0, f, g, _ => rfl
  | n + 1, f, g, h => by rw [zk, zk, h 0 (by omega), zk_congr n _ (fun i => g (i + 1)) (fun i hi => h (i + 1) (by omega))]
theorem zk_and {n : Nat} {f g : Nat → Nat} (hf : ∀ i, f i < 256) (hg : ∀ i, g i < 256) : zk f n &&& zk g n = zk (fun i => f i &&& g i) n := by
  apply Nat.eq_of_testBit_eq
  intro p
  rw [Nat.testBit_and, zk_tb n f p hf, zk_tb n g p hg, zk_tb n _ p (fun i => Nat.lt_of_le_of_lt Nat.and_le_left (hf i))]
  by_cases h : p < 8 * n
  · rw [if_pos h, if_pos h, if_pos h, Nat.testBit_and]
  · rw [if_neg h, if_neg h, if_neg h]; rfl
theorem zk_shr {n s m : Nat} {f : Nat → Nat} (hf : ∀ i, f i < 256) (hs : s < 8) (hm : m < 2 ^ (8 - s)) : (zk f n >>> s) &&& zk (fun _ => m) n = zk (fun i => (f i >>> s) &&& m) n := by
  have hm8 : m < 256 := Nat.lt_of_lt_of_le hm (Nat.pow_le_pow_right (by omega) (show 8 - s ≤ 8 by omega))
  apply Nat.eq_of_testBit_eq
  intro p
  rw [Nat.testBit_and, Nat.testBit_shiftRight, zk_tb n f _ hf, zk_tb n (fun _ => m) p (fun _ => hm8), zk_tb n _ p (fun i => Nat.lt_of_le_of_lt Nat.and_le_right hm8)]
  by_cases h : p < 8 * n
  · rw [if_pos h, if_pos h, Nat.testBit_and, Nat.testBit_shiftRight]
    by_cases h2 : p % 8 < 8 - s
    · rw [if_pos (by omega), show (s + p) / 8 = p / 8 by omega, show (s + p) % 8 = s + p % 8 by omega]
    · have : m.testBit (p % 8) = false := Nat.testBit_lt_two_pow (Nat.lt_of_lt_of_le hm (Nat.pow_le_pow_right (by omega) (by omega)))
      rw [this, Bool.and_false, Bool.and_false]
  · rw [if_neg h, if_neg h, Bool.and_false]
theorem zk_of {v : Nat} (h : v < 2 ^ 64) : v = zk (fun i => (v >>> (8 * i)) % 256) 8 := by
  apply Nat.eq_of_testBit_eq
  intro p
  rw [zk_tb 8 _ p (fun i => Nat.mod_lt _ (by omega))]
  by_cases h2 : p < 8 * 8
  · rw [if_pos h2, show (256 : Nat) = 2 ^ 8 from rfl, Nat.testBit_mod_two_pow, decide_eq_true (Nat.mod_lt p (by omega)), Bool.true_and, Nat.testBit_shiftRight, show 8 * (p / 8) + p % 8 = p by omega]
  · rw [if_neg h2]
    exact Nat.testBit_lt_two_pow (Nat.lt_of_lt_of_le h (Nat.pow_le_pow_right (by omega) (by omega)))
def y1 (b : Nat) : Nat := b - ((b >>> 1) &&& 85)
def y2 (b : Nat) : Nat := (b &&& 51) + ((b >>> 2) &&& 51)
def y3 (b : Nat) : Nat := y2 (y1 b) % 16 + y2 (y1 b) / 16
theorem byt_tab : ∀ b : Fin 256, ((b.val >>> 1) &&& 85) ≤ b.val ∧ y2 (y1 b.val) % 16 ≤ 4 ∧ y2 (y1 b.val) / 16 ≤ 4 ∧ (y3 b.val : Int) = cntF (fun j => b.val.testBit j) 8 0 := by decide +kernel
theorem byt {b : Nat} (h : b < 256) : ((b >>> 1) &&& 85) ≤ b ∧ y2 (y1 b) % 16 ≤ 4 ∧ y2 (y1 b) / 16 ≤ 4 ∧ (y3 b : Int) = cntF (fun j => b.testBit j) 8 0 := byt_tab ⟨b, h⟩
def w1 (v : BitVec 64) : BitVec 64 := v - ((v >>> 1) &&& 6148914691236517205#64)
def w2 (v : BitVec 64) : BitVec 64 := (v &&& 3689348814741910323#64) + ((v >>> 2) &&& 3689348814741910323#64)
def w3 (v : BitVec 64) : BitVec 64 := (v + v >>> 4) &&& 1085102592571150095#64
def w4 (v : BitVec 64) : BitVec 64 := v + v >>> 8
def w5 (v : BitVec 64) : BitVec 64 := v + v >>> 16
def w6 (v : BitVec 64) : BitVec 64 := v + v >>> 32
theorem w1_n {v : BitVec 64} {f : Nat → Nat} (hf : ∀ i, f i < 256) (h : v.toNat = zk f 8) : (w1 v).toNat = zk (fun i => y1 (f i)) 8 := by
  have e1 : ((v >>> 1) &&& 6148914691236517205#64).toNat = zk (fun i => (f i >>> 1) &&& 85) 8 := by
    rw [BitVec.toNat_and, BitVec.toNat_ushiftRight, h]
    exact zk_shr (m := 85) hf (by omega) (by omega)
  have e2 := zk_add 8 (fun i => y1 (f i)) (fun i => (f i >>> 1) &&& 85)
  have e3 : zk (fun i => y1 (f i) + ((f i >>> 1) &&& 85)) 8 = zk f 8 := zk_congr 8 _ _ (fun i _ => by
    have := (byt (hf i)).1
    show f i - ((f i >>> 1) &&& 85) + ((f i >>> 1) &&& 85) = f i
    omega)
  unfold w1
  rw [BitVec.toNat_sub_of_le (by rw [BitVec.le_def, e1, h]; omega), e1, h]
  omega
theorem w2_n {v : BitVec 64} {f : Nat → Nat} (hf : ∀ i, f i < 256) (h : v.toNat = zk f 8) : (w2 v).toNat = zk (fun i => y2 (f i)) 8 := by
  have e1 : ((v >>> 2) &&& 3689348814741910323#64).toNat = zk (fun i => (f i >>> 2) &&& 51) 8 := by
    rw [BitVec.toNat_and, BitVec.toNat_ushiftRight, h]
    exact zk_shr (m := 51) hf (by omega) (by omega)
  have e0 : (v &&& 3689348814741910323#64).toNat = zk (fun i => f i &&& 51) 8 := by
    rw [BitVec.toNat_and, h]
    exact zk_and (g := fun _ => 51) hf (fun _ => by omega)
  have e2 := zk_add 8 (fun i => f i &&& 51) (fun i => (f i >>> 2) &&& 51)
  have e3 := zk_lt 8 (fun i => y2 (f i)) (fun i => by
    have h1 : f i &&& 51 ≤ 51 := Nat.and_le_right
    have h2 : (f i >>> 2) &&& 51 ≤ 51 := Nat.and_le_right
    show (f i &&& 51) + ((f i >>> 2) &&& 51) < 256
    omega)
  have e4 : zk (fun i => (f i &&& 51) + ((f i >>> 2) &&& 51)) 8 = zk (fun i => y2 (f i)) 8 := rfl
  unfold w2
  rw [BitVec.toNat_add_of_lt (by rw [e1, e0]; omega), e1, e0]
  omega
theorem w3_n {v : BitVec 64} {f : Nat → Nat} (hf : ∀ i, f i % 16 ≤ 4 ∧ f i / 16 ≤ 4) (h : v.toNat = zk f 8) : (w3 v).toNat = zk (fun i => f i % 16 + f i / 16) 8 := by
  have hl : ∀ i, f i = f i % 16 + 16 * (f i / 16) := fun i => by omega
  have e1 : v.toNat + v.toNat / 16 = zk (fun i => (f i % 16 + f i / 16) + 16 * (f i / 16 + if i = 7 then 0 else f (i + 1) % 16)) 8 := by
    rw [h]
    simp only [zk]
    have h0 := hl 0
    have h1 := hl 1
    have h2 := hl 2
    have h3 := hl 3
    have h4 := hl 4
    have h5 := hl 5
    have h6 := hl 6
    have h7 := hl 7
    simp only [Nat.zero_add, Nat.reduceAdd, Nat.reduceEqDiff, if_false, if_true, reduceIte] at *
    omega
  have hb : ∀ i, (f i % 16 + f i / 16) + 16 * (f i / 16 + if i = 7 then 0 else f (i + 1) % 16) < 256 := fun i => by
    have := hf i
    have := hf (i + 1)
    split <;> omega
  have hlt := zk_lt 8 _ hb
  have e2 : (v + v >>> 4).toNat = zk (fun i => (f i % 16 + f i / 16) + 16 * (f i / 16 + if i = 7 then 0 else f (i + 1) % 16)) 8 := by
    have e3 : v.toNat >>> 4 = v.toNat / 16 := Nat.shiftRight_eq_div_pow _ _
    rw [BitVec.toNat_add_of_lt (by rw [BitVec.toNat_ushiftRight, e3]; omega), BitVec.toNat_ushiftRight, e3, e1]
  unfold w3
  rw [BitVec.toNat_and, e2]
  refine (zk_and (g := fun _ => 15) hb (fun _ => by omega)).trans (zk_congr 8 _ _ (fun i _ => ?_))
  have := hf i
  have e4 := Nat.and_two_pow_sub_one_eq_mod ((f i % 16 + f i / 16) + 16 * (f i / 16 + if i = 7 then 0 else f (i + 1) % 16)) 4
  refine e4.trans ?_
  omega
