/-! Lights asked for, breaches counted. -/
def litB (s : Nat → Nat) (r : Int) : Nat := if r = -1 then 0 else s r.toNat
def anyF (f : Nat → Bool) : Nat → Nat → Bool
  | 0, _ => false
  | d + 1, i => f i || anyF f d (i + 1)
def cntF (f : Nat → Bool) : Nat → Nat → Int
  | 0, _ => 0
  | d + 1, i => (if f i = true then 1 else 0) + cntF f d (i + 1)
theorem anyF_app (f : Nat → Bool) : ∀ a b i, anyF f (a + b) i = (anyF f a i || anyF f b (i + a))
  | 0, b, i => by rw [Nat.zero_add]; rfl
  | a + 1, b, i => by
    rw [show a + 1 + b = (a + b) + 1 by omega, anyF, anyF, anyF_app f a b (i + 1), Bool.or_assoc, show i + 1 + a = i + (a + 1) by omega]
theorem cntF_b (f : Nat → Bool) : ∀ d i, 0 ≤ cntF f d i ∧ cntF f d i ≤ d
  | 0, _ => by show (0 : Int) ≤ 0 ∧ (0 : Int) ≤ 0; omega
  | d + 1, i => by
    have := cntF_b f d (i + 1)
    unfold cntF
    split <;> omega
theorem cntF_congr {f g : Nat → Bool} : ∀ d i, (∀ j, i ≤ j → j < i + d → f j = g j) → cntF f d i = cntF g d i
  | 0, _, _ => rfl
  | d + 1, i, h => by
    unfold cntF
    rw [h i (by omega) (by omega), cntF_congr d (i + 1) (fun j h1 h2 => h j (by omega) (by omega))]
section LG
variable {fu k : Nat} {s : Nat → Nat} {c f : Nat → Int} {cy o t : Int} {S : Mem}
theorem pha_ok {g cc : Nat → Int} (x : Int) : pha g cc (mny s) 0 x = -1 ∨ ∃ q : Nat, q < mny s ∧ pha g cc (mny s) 0 x = (q : Int) := by
  rcases pha_b (g := g) (c := cc) (mny s) 0 x with e | ⟨q, h1, h2, h3⟩
  · exact Or.inl e
  · exact Or.inr ⟨q, by omega, h3⟩
theorem s_isLit {m : Nat} (ho : okJ s c f cy) (h0 : 0 ≤ lef s c cy) (hJ : SJ S k s c f cy) (hP : PLN S k s c f cy) (h9 : S.1 3 k 9 = i32 o) (hoo : 0 ≤ o ∧ o < cy) (ht : 0 ≤ t ∧ t < 1000000) (hm : m < 4) : f_X3_isLit fu k (i32 (m : Int)) (i32 t) S = some (bo ((lit s c f cy ((t - o) % cy)).testBit m)) := by
  have hcy := ho.2.2.2
  unfold f_X3_isLit
  rw [h9, s_isLitFrom hJ.2.1 ho (hP.2.2 h0).2 (lit_lt ho) hm (by omega) ht, b1s, nb_bo]
/-- is movement m green in one of the seconds from t on, up to a clearance -/
def tsn (L : Int → Nat) (m : Nat) (t : Int) (d i : Nat) : Bool := anyF (fun j => (L (t + (j : Int))).testBit m) d i
def brq (L : Int → Nat) (c : Nat → Int) (t : Int) (q : Nat) : Bool := (L t).testBit (q / 4) && tsn L (q % 4) t (c q + 1).toNat 0
def LI (s : Nat → Nat) (c f : Nat → Int) (cy o : Int) (t : Int) : Nat := lit s c f cy ((t - o) % cy)
theorem s_lts (ho : okJ s c f cy) (h0 : 0 ≤ lef s c cy) (hJ : SJ S k s c f cy) (hP : PLN S k s c f cy) (h9 : S.1 3 k 9 = i32 o) (hoo : 0 ≤ o ∧ o < cy) (ht : 0 ≤ t ∧ t < 100000) {m : Nat} (hm : m < 4) {cl : Int} (hcl : -1 ≤ cl ∧ cl ≤ 9) : ∀ d i n : Nat, (i : Int) + d = cl + 1 → d < n → f_X3_isLitTooSoon_3 fu k (i32 (m : Int)) (i32 t) (i32 cl) S n (i32 (i : Int)) = some (bo (tsn (LI s c f cy o) m t d i)) := by
  intro d
  induction d with
  | zero =>
    intro i n hi hn
    obtain ⟨n, rfl⟩ : ∃ n', n = n' + 1 := ⟨n - 1, by omega⟩
    rw [f_X3_isLitTooSoon_3, ltT (by omega) (by omega) (by omega), nb_0]
    rfl
  | succ d ih =>
    intro i n hi hn
    obtain ⟨n, rfl⟩ : ∃ n', n = n' + 1 := ⟨n - 1, by omega⟩
    have ih' := ih (i + 1) n (by omega) (by omega)
    rw [f_X3_isLitTooSoon_3, ltF (by omega) (by omega) (by omega), q_add, s_isLit ho h0 hJ hP h9 hoo (by omega) hm, b1s]
    have e : tsn (LI s c f cy o) m t (d + 1) i = ((LI s c f cy o (t + (i : Int))).testBit m || tsn (LI s c f cy o) m t d (i + 1)) := rfl
    rw [e]
    unfold LI at e ⊢
    cases (lit s c f cy ((t + (i : Int) - o) % cy)).testBit m with
    | false =>
      rw [boF rfl, q_1, q_add, Bool.false_or]
      exact ih'
    | true =>
      rw [boT rfl, nb_1, Bool.true_or]
      rfl
theorem s_br9 {K2 : Int32 → Option Int32} (hfu : 20 ≤ fu) (ho : okJ s c f cy) (h0 : 0 ≤ lef s c cy) (hJ : SJ S k s c f cy) (hP : PLN S k s c f cy) (h9 : S.1 3 k 9 = i32 o) (hoo : 0 ≤ o ∧ o < cy) (ht : 0 ≤ t ∧ t < 10000) {m : Nat} (hm : m < 4) : ∀ d q n : Nat, q + d = 4 → d < n → f_X3_isBreached_9 fu K2 k (i32 t) S n (i32 (m : Int)) (i32 (q : Int)) = if anyF (brq (LI s c f cy o) c t) d (4 * m + q) = true then some 1 else K2 (i32 ((m : Int) + 1)) := by
  intro d
  induction d with
  | zero =>
    intro q n hq hn
    obtain ⟨n, rfl⟩ : ∃ n', n = n' + 1 := ⟨n - 1, by omega⟩
    have : q = 4 := by omega
    subst this
    rw [f_X3_isBreached_9, q_4, leT (by omega) (by omega) (by omega), q_1, q_add]
    rfl
  | succ d ih =>
    intro q n hq hn
    obtain ⟨n, rfl⟩ : ∃ n', n = n' + 1 := ⟨n - 1, by omega⟩
    have ih' := ih (q + 1) n (by omega) (by omega)
    have hc := ho.2.1 (4 * m + q) (by omega)
    have e : anyF (brq (LI s c f cy o) c t) (d + 1) (4 * m + q) = (brq (LI s c f cy o) c t (4 * m + q) || anyF (brq (LI s c f cy o) c t) d (4 * m + (q + 1))) := rfl
    have e2 : brq (LI s c f cy o) c t (4 * m + q) = ((LI s c f cy o t).testBit m && tsn (LI s c f cy o) q t (c (4 * m + q) + 1).toNat 0) := by
      unfold brq
      rw [show (4 * m + q) / 4 = m by omega, show (4 * m + q) % 4 = q by omega]
    rw [e, e2, f_X3_isBreached_9, q_4, leF (by omega) (by omega) (by omega), s_isLit ho h0 hJ hP h9 hoo (by omega) hm, b1s]
    unfold f_X3_isBreached_40
    have e3 : i32 (q : Int) + 1 = i32 ((q + 1 : Nat) : Int) := by rw [q_1, q_add]; rfl
    have e4 : (lit s c f cy ((t - o) % cy)) = LI s c f cy o t := rfl
    rw [e4, e3]
    cases (LI s c f cy o t).testBit m with
    | false =>
      rw [boF rfl, Bool.false_and, Bool.false_or]
      exact ih'
    | true =>
      rw [boT rfl, s_clearanceOf hm (by omega) hJ.2.2.2.1, b1s]
      unfold f_X3_isLitTooSoon
      rw [show (0 : Int32) = i32 ((0 : Nat) : Int) from rfl, s_lts ho h0 hJ hP h9 hoo (by omega) (by omega) hc (c (4 * m + q) + 1).toNat 0 fu (by omega) (by omega), b1s, Bool.true_and, show i32 ((0 : Nat) : Int) = (0 : Int32) from rfl]
      cases tsn (LI s c f cy o) q t (c (4 * m + q) + 1).toNat 0 with
      | false =>
        rw [boF rfl, Bool.false_or]
        exact ih'
      | true =>
        rw [boT rfl, nb_1, Bool.true_or, if_pos rfl]
theorem s_br2 (hfu : 20 ≤ fu) (ho : okJ s c f cy) (h0 : 0 ≤ lef s c cy) (hJ : SJ S k s c f cy) (hP : PLN S k s c f cy) (h9 : S.1 3 k 9 = i32 o) (hoo : 0 ≤ o ∧ o < cy) (ht : 0 ≤ t ∧ t < 10000) : ∀ d m n : Nat, m + d = 4 → d < n → f_X3_isBreached_2 fu k (i32 t) S n (i32 (m : Int)) = some (bo (anyF (brq (LI s c f cy o) c t) (4 * d) (4 * m))) := by
  intro d
  induction d with
  | zero =>
    intro m n hm hn
    obtain ⟨n, rfl⟩ : ∃ n', n = n' + 1 := ⟨n - 1, by omega⟩
    rw [f_X3_isBreached_2, q_4, leT (by omega) (by omega) (by omega), nb_0]
    rfl
  | succ d ih =>
    intro m n hm hn
    obtain ⟨n, rfl⟩ : ∃ n', n = n' + 1 := ⟨n - 1, by omega⟩
    have h9' := s_br9 (K2 := f_X3_isBreached_2 fu k (i32 t) S n) hfu ho h0 hJ hP h9 hoo ht (m := m) (by omega) 4 0 fu (by omega) (by omega)
    rw [f_X3_isBreached_2, q_4, leF (by omega) (by omega) (by omega), q_0]
    rw [show 4 * m + 0 = 4 * m by omega] at h9'
    refine h9'.trans ?_
    rw [show 4 * (d + 1) = 4 + 4 * d by omega, anyF_app]
    cases anyF (brq (LI s c f cy o) c t) 4 (4 * m) with
    | false =>
      rw [if_neg (by simp), Bool.false_or, show 4 * m + 4 = 4 * (m + 1) by omega]
      exact ih (m + 1) n (by omega) (by omega)
    | true =>
      rw [if_pos rfl, Bool.true_or]
      rfl
def brF (s : Nat → Nat) (c f : Nat → Int) (cy o : Int) (t : Nat) : Bool := anyF (brq (LI s c f cy o) c (t : Int)) 16 0
theorem s_cb4 (hfu : 20 ≤ fu) (ho : okJ s c f cy) (h0 : 0 ≤ lef s c cy) (hJ : SJ S k s c f cy) (hP : PLN S k s c f cy) (h9 : S.1 3 k 9 = i32 o) (hoo : 0 ≤ o ∧ o < cy) : ∀ (d t n : Nat) (x : Int), (t : Int) + d = cy → d < n → 0 ≤ x → x ≤ t → f_X3_countBreaches_4 fu k S n (i32 x) (i32 (t : Int)) = some (i32 (x + cntF (brF s c f cy o) d t)) := by
  intro d
  have hcy := ho.2.2.2
  induction d with
  | zero =>
    intro t n x ht hn hx0 hx
    obtain ⟨n, rfl⟩ : ∃ n', n = n' + 1 := ⟨n - 1, by omega⟩
    rw [f_X3_countBreaches_4, hJ.2.1, leT (by omega) (by omega) (by omega)]
    show some (i32 x) = some (i32 (x + 0))
    rw [Int.add_zero]
  | succ d ih =>
    intro t n x ht hn hx0 hx
    obtain ⟨n, rfl⟩ : ∃ n', n = n' + 1 := ⟨n - 1, by omega⟩
    have hb := s_br2 (t := (t : Int)) hfu ho h0 hJ hP h9 hoo (by omega) 4 0 fu (by omega) (by omega)
    rw [f_X3_countBreaches_4, hJ.2.1, leF (by omega) (by omega) (by omega)]
    unfold f_X3_isBreached f_X3_countBreaches_23
    have hb' : f_X3_isBreached_2 fu k (i32 (t : Int)) S fu 0 = some (bo (brF s c f cy o t)) := hb
    have e3 : i32 (t : Int) + 1 = i32 ((t + 1 : Nat) : Int) := by rw [q_1, q_add]; rfl
    rw [hb', b1s, cntF, e3]
    cases brF s c f cy o t with
    | false =>
      rw [boF rfl, if_neg (by simp), Int.zero_add]
      exact ih (t + 1) n x (by omega) (by omega) hx0 (by omega)
    | true =>
      rw [boT rfl, if_pos rfl, q_1, q_add, ih (t + 1) n (x + 1) (by omega) (by omega) (by omega) (by omega)]
      congr 2
      omega
end LG
section LH
variable {fu k : Nat} {s : Nat → Nat} {c f : Nat → Int} {cy o t : Int} {S : Mem}
end LH
