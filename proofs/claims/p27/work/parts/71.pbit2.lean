/-! bits of a long, counted: the class's own count. -/
theorem zk_end : ∀ (n : Nat) (f : Nat → Nat), f n = 0 → zk f (n + 1) = zk f n
  | 0, f, h => by rw [zk, zk, zk, h]
  | n + 1, f, h => by
    have e := zk_end n (fun i => f (i + 1)) h
    rw [zk, e, zk]
theorem zk_d {f : Nat → Nat} (h0 : f 0 < 256) (h8 : f 8 = 0) : zk f 8 / 256 = zk (fun i => f (i + 1)) 8 := by
  rw [zk_end 7 (fun i => f (i + 1)) h8]
  show (f 0 + 256 * zk (fun i => f (i + 1)) 7) / 256 = zk (fun i => f (i + 1)) 7
  omega
theorem w_add {v : BitVec 64} {f : Nat → Nat} (k q : Nat) (hq : 2 ^ k = q) (hf : ∀ i, f i ≤ 64) (h : v.toNat = zk f 8) (g : Nat → Nat) (hg : ∀ i, g i ≤ 64) (hd : zk f 8 / q = zk g 8) : (v + v >>> k).toNat = zk (fun i => f i + g i) 8 := by
  have e3 : v.toNat >>> k = zk g 8 := by rw [Nat.shiftRight_eq_div_pow, h, hq, hd]
  have e4 := zk_add 8 f g
  have e5 := zk_lt 8 (fun i => f i + g i) (fun i => by have := hf i; have := hg i; show f i + g i < 256; omega)
  rw [BitVec.toNat_add_of_lt (by rw [BitVec.toNat_ushiftRight, e3, h, e4]; omega), BitVec.toNat_ushiftRight, e3, h, e4]
theorem w_sum {v : BitVec 64} {f : Nat → Nat} (hf : ∀ i, f i ≤ 8) (h8 : ∀ i, 8 ≤ i → f i = 0) (h : v.toNat = zk f 8) : (w6 (w5 (w4 v))).toNat % 128 = f 0 + f 1 + f 2 + f 3 + f 4 + f 5 + f 6 + f 7 := by
  have g4 := w_add 8 256 rfl (fun i => by have := hf i; omega) h (fun i => f (i + 1)) (fun i => by have := hf (i + 1); show f (i + 1) ≤ 64; omega) (zk_d (by have := hf 0; omega) (h8 8 (by omega)))
  have b4 : ∀ i, f i + f (i + 1) ≤ 16 := fun i => by have := hf i; have := hf (i + 1); omega
  have z4 : ∀ i, 8 ≤ i → f i + f (i + 1) = 0 := fun i h => by rw [h8 i h, h8 (i + 1) (by omega)]
  generalize hf4 : (fun i => f i + f (i + 1)) = f4 at *
  have c4 : ∀ i, f4 i = f i + f (i + 1) := fun i => by rw [← hf4]
  have d5 : zk f4 8 / 65536 = zk (fun i => f4 (i + 2)) 8 := by
    rw [show 65536 = 256 * 256 from rfl, ← Nat.div_div_eq_div_mul, zk_d (by rw [c4]; have := b4 0; omega) (by rw [c4]; exact z4 8 (by omega))]
    exact zk_d (f := fun i => f4 (i + 1)) (by show f4 1 < 256; rw [c4]; have := b4 1; omega) (by show f4 9 = 0; rw [c4]; exact z4 9 (by omega))
  have g5 := w_add (v := w4 v) 16 65536 rfl (fun i => by rw [c4]; have := b4 i; omega) g4 (fun i => f4 (i + 2)) (fun i => by show f4 (i + 2) ≤ 64; rw [c4]; have := b4 (i + 2); omega) d5
  have b5 : ∀ i, f4 i + f4 (i + 2) ≤ 32 := fun i => by rw [c4, c4]; have := b4 i; have := b4 (i + 2); omega
  have z5 : ∀ i, 8 ≤ i → f4 i + f4 (i + 2) = 0 := fun i h => by rw [c4, c4, z4 i h, z4 (i + 2) (by omega)]
  generalize hf5 : (fun i => f4 i + f4 (i + 2)) = f5 at *
  have c5 : ∀ i, f5 i = f4 i + f4 (i + 2) := fun i => by rw [← hf5]
  have s1 : ∀ i, f5 i < 256 := fun i => by rw [c5]; have := b5 i; omega
  have s0 : ∀ i, 8 ≤ i → f5 i = 0 := fun i h => by rw [c5]; exact z5 i h
  have d6 : zk f5 8 / 4294967296 = zk (fun i => f5 (i + 4)) 8 := by
    rw [show 4294967296 = 256 * 256 * 256 * 256 from rfl, ← Nat.div_div_eq_div_mul, ← Nat.div_div_eq_div_mul, ← Nat.div_div_eq_div_mul, zk_d (s1 0) (s0 8 (by omega)), zk_d (f := fun i => f5 (i + 1)) (s1 1) (s0 9 (by omega)), zk_d (f := fun i => f5 (i + 1 + 1)) (s1 2) (s0 10 (by omega)), zk_d (f := fun i => f5 (i + 1 + 1 + 1)) (s1 3) (s0 11 (by omega))]
  have g6 := w_add (v := w5 (w4 v)) 32 4294967296 rfl (fun i => by rw [c5]; have := b5 i; omega) g5 (fun i => f5 (i + 4)) (fun i => by show f5 (i + 4) ≤ 64; rw [c5]; have := b5 (i + 4); omega) d6
  have e : (w6 (w5 (w4 v))).toNat = (f5 0 + f5 4) + 256 * zk (fun i => f5 (i + 1) + f5 (i + 1 + 4)) 7 := g6
  have t0 := b5 0
  have t4 := b5 4
  rw [← c5] at t0 t4
  have u : f5 0 + f5 4 = f 0 + f 1 + f 2 + f 3 + f 4 + f 5 + f 6 + f 7 := by
    rw [c5, c5, c4, c4, c4, c4]
    simp only [Nat.zero_add, Nat.reduceAdd]
    omega
  omega
def z1 (x : Int64) : Int64 := x - (((x).toUInt64 >>> ((1 : Int32).toInt64.toUInt64 &&& Int64.toUInt64 63)).toInt64 &&& 6148914691236517205)
def z2 (x : Int64) : Int64 := (x &&& 3689348814741910323) + (((x).toUInt64 >>> ((2 : Int32).toInt64.toUInt64 &&& Int64.toUInt64 63)).toInt64 &&& 3689348814741910323)
def z3 (x : Int64) : Int64 := (x + ((x).toUInt64 >>> ((4 : Int32).toInt64.toUInt64 &&& Int64.toUInt64 63)).toInt64) &&& 1085102592571150095
def z4 (x : Int64) : Int64 := x + ((x).toUInt64 >>> ((8 : Int32).toInt64.toUInt64 &&& Int64.toUInt64 63)).toInt64
def z5 (x : Int64) : Int64 := x + ((x).toUInt64 >>> ((16 : Int32).toInt64.toUInt64 &&& Int64.toUInt64 63)).toInt64
def z6 (x : Int64) : Int64 := x + ((x).toUInt64 >>> ((32 : Int32).toInt64.toUInt64 &&& Int64.toUInt64 63)).toInt64
theorem z1_b (x : Int64) : (z1 x).toBitVec = w1 x.toBitVec := by
  unfold z1 w1
  rw [Int64.toBitVec_sub, Int64.toBitVec_and, UInt64.toBitVec_toInt64, UInt64.toBitVec_shiftRight, Int64.toBitVec_toUInt64]
  rfl
theorem z2_b (x : Int64) : (z2 x).toBitVec = w2 x.toBitVec := by
  unfold z2 w2
  rw [Int64.toBitVec_add, Int64.toBitVec_and, Int64.toBitVec_and, UInt64.toBitVec_toInt64, UInt64.toBitVec_shiftRight, Int64.toBitVec_toUInt64]
  rfl
theorem z3_b (x : Int64) : (z3 x).toBitVec = w3 x.toBitVec := by
  unfold z3 w3
  rw [Int64.toBitVec_and, Int64.toBitVec_add, UInt64.toBitVec_toInt64, UInt64.toBitVec_shiftRight, Int64.toBitVec_toUInt64]
  rfl
theorem z4_b (x : Int64) : (z4 x).toBitVec = w4 x.toBitVec := by
  unfold z4 w4
  rw [Int64.toBitVec_add, UInt64.toBitVec_toInt64, UInt64.toBitVec_shiftRight, Int64.toBitVec_toUInt64]
  rfl
theorem z5_b (x : Int64) : (z5 x).toBitVec = w5 x.toBitVec := by
  unfold z5 w5
  rw [Int64.toBitVec_add, UInt64.toBitVec_toInt64, UInt64.toBitVec_shiftRight, Int64.toBitVec_toUInt64]
  rfl
theorem z6_b (x : Int64) : (z6 x).toBitVec = w6 x.toBitVec := by
  unfold z6 w6
  rw [Int64.toBitVec_add, UInt64.toBitVec_toInt64, UInt64.toBitVec_shiftRight, Int64.toBitVec_toUInt64]
  rfl
theorem z_all (fu : Nat) (x : Int64) (S : Mem) : f_J13_bitCount_95d88 fu x S = some ((z6 (z5 (z4 (z3 (z2 (z1 x)))))).toInt32 &&& 127) := rfl
theorem cntF_app (f : Nat → Bool) : ∀ a b i, cntF f (a + b) i = cntF f a i + cntF f b (i + a)
  | 0, b, i => by
    have e : cntF f 0 i = 0 := rfl
    rw [Nat.zero_add, e, Int.zero_add, Nat.add_zero]
  | a + 1, b, i => by
    rw [show a + 1 + b = (a + b) + 1 by omega, cntF, cntF, cntF_app f a b (i + 1), show i + 1 + a = i + (a + 1) by omega]
    omega
theorem cntF_sh {f g : Nat → Bool} (s : Nat) : ∀ d i, (∀ j, i ≤ j → j < i + d → f (s + j) = g j) → cntF f d (s + i) = cntF g d i
  | 0, _, _ => rfl
  | d + 1, i, h => by
    unfold cntF
    rw [h i (by omega) (by omega), show s + i + 1 = s + (i + 1) by omega, cntF_sh s d (i + 1) (fun j h1 h2 => h j (by omega) (by omega))]
theorem byt_c (v : BitVec 64) (k : Nat) (hk : k < 8) : cntF (fun t => v.getLsbD t) 8 (8 * k) = (y3 ((v.toNat >>> (8 * k)) % 256) : Int) := by
  rw [(byt (Nat.mod_lt _ (by omega))).2.2.2]
  refine cntF_sh (8 * k) 8 0 (fun j h1 h2 => ?_)
  have e := Nat.testBit_mod_two_pow (v.toNat >>> (8 * k)) 8 j
  rw [decide_eq_true (show j < 8 by omega), Bool.true_and, Nat.testBit_shiftRight] at e
  exact e.symm
theorem s_bitc (fu : Nat) (x : Int64) (S : Mem) : f_J13_bitCount_95d88 fu x S = some (i32 (cntF (bb x) 64 0)) := by
  rw [z_all]
  congr 1
  have hv : x.toBitVec.toNat = zk (fun i => (x.toBitVec.toNat >>> (8 * i)) % 256) 8 := zk_of x.toBitVec.isLt
  have hb : ∀ i, (x.toBitVec.toNat >>> (8 * i)) % 256 < 256 := fun i => Nat.mod_lt _ (by omega)
  have hy1 : ∀ i, y1 ((x.toBitVec.toNat >>> (8 * i)) % 256) < 256 := fun i => Nat.lt_of_le_of_lt (Nat.sub_le _ _) (hb i)
  have g1 := w1_n hb hv
  have g2 := w2_n hy1 g1
  have g3 := w3_n (fun i => ⟨(byt (hb i)).2.1, (byt (hb i)).2.2.1⟩) g2
  have hz : ∀ i, 8 ≤ i → (x.toBitVec.toNat >>> (8 * i)) % 256 = 0 := fun i h => by
    rw [Nat.shiftRight_eq_div_pow, Nat.div_eq_of_lt (Nat.lt_of_lt_of_le x.toBitVec.isLt (Nat.pow_le_pow_right (by omega) (show 64 ≤ 8 * i by omega)))]
  have g := w_sum (fun i => by
    have h1 := (byt (hb i)).2.1
    have h2 := (byt (hb i)).2.2.1
    show y2 (y1 ((x.toBitVec.toNat >>> (8 * i)) % 256)) % 16 + y2 (y1 ((x.toBitVec.toNat >>> (8 * i)) % 256)) / 16 ≤ 8
    omega) (fun i h => by
    show y2 (y1 ((x.toBitVec.toNat >>> (8 * i)) % 256)) % 16 + y2 (y1 ((x.toBitVec.toNat >>> (8 * i)) % 256)) / 16 = 0
    rw [hz i h]
    rfl) g3
  have hc : cntF (bb x) 64 0 = (((w6 (w5 (w4 (w3 (w2 (w1 x.toBitVec)))))).toNat % 128 : Nat) : Int) := by
    rw [g]
    have e : cntF (bb x) 64 0 = cntF (bb x) 8 (8 * 0) + cntF (bb x) 8 (8 * 1) + cntF (bb x) 8 (8 * 2) + cntF (bb x) 8 (8 * 3) + cntF (bb x) 8 (8 * 4) + cntF (bb x) 8 (8 * 5) + cntF (bb x) 8 (8 * 6) + cntF (bb x) 8 (8 * 7) := by
      have a1 := cntF_app (bb x) 8 56 0
      have a2 := cntF_app (bb x) 8 48 8
      have a3 := cntF_app (bb x) 8 40 16
      have a4 := cntF_app (bb x) 8 32 24
      have a5 := cntF_app (bb x) 8 24 32
      have a6 := cntF_app (bb x) 8 16 40
      have a7 := cntF_app (bb x) 8 8 48
      simp only [Nat.reduceAdd, Nat.reduceMul] at *
      omega
    have b0 := byt_c x.toBitVec 0 (by omega)
    have b1 := byt_c x.toBitVec 1 (by omega)
    have b2 := byt_c x.toBitVec 2 (by omega)
    have b3 := byt_c x.toBitVec 3 (by omega)
    have b4 := byt_c x.toBitVec 4 (by omega)
    have b5 := byt_c x.toBitVec 5 (by omega)
    have b6 := byt_c x.toBitVec 6 (by omega)
    have b7 := byt_c x.toBitVec 7 (by omega)
    rw [e]
    unfold bb y3 at *
    rw [b0, b1, b2, b3, b4, b5, b6, b7]
    omega
  apply Int32.toBitVec_inj.mp
  rw [Int32.toBitVec_and, Int64.toBitVec_toInt32, z6_b, z5_b, z4_b, z3_b, z2_b, z1_b, BitVec.signExtend_eq_setWidth_of_le _ (by omega)]
  generalize w6 (w5 (w4 (w3 (w2 (w1 x.toBitVec))))) = v at *
  apply BitVec.eq_of_toNat_eq
  rw [BitVec.toNat_and, BitVec.toNat_setWidth, hc]
  have e1 : (i32 ((v.toNat % 128 : Nat) : Int)).toBitVec.toNat = v.toNat % 128 := by
    unfold i32
    rw [Int32.toBitVec_ofInt, BitVec.toNat_ofInt]
    omega
  rw [e1]
  refine (Nat.and_two_pow_sub_one_eq_mod (v.toNat % 2 ^ 32) 7).trans ?_
  omega
