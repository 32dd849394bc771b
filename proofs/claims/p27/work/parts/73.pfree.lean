/-! free seconds of both ways. -/
def cut (n : Nat) (p : Nat → Bool) : Nat → Bool := fun t => decide (t < n) && p t
def rot (n : Nat) (p : Nat → Bool) : Nat → Bool := fun t => p ((t + (n - 1)) % n)
def FS (S : Mem) (i n : Nat) (p q : Nat → Bool) : Prop := SG S (2 * i) (cut n p) ∧ SG S (2 * i + 1) (cut n q)
def fsF (i : Nat) (S S' : Mem) : Prop := S'.1 = S.1 ∧ ∀ a j, a ≠ 2 * i → a ≠ 2 * i + 1 → S'.2 5 a j = S.2 5 a j
theorem fsF.rf {i : Nat} {S : Mem} : fsF i S S := ⟨rfl, fun _ _ _ _ => rfl⟩
theorem fsF.trans {i : Nat} {S S' S2 : Mem} (h : fsF i S S') (h' : fsF i S' S2) : fsF i S S2 := ⟨h'.1.trans h.1, fun a j q1 q2 => (h'.2 a j q1 q2).trans (h.2 a j q1 q2)⟩
theorem FS.fr {S S' : Mem} {i k n : Nat} {p q : Nat → Bool} (h : FS S i n p q) (hf : fsF k S S') (hk : i ≠ k) : FS S' i n p q := ⟨h.1.fr (fun j => hf.2 _ j (by omega) (by omega)), h.2.fr (fun j => hf.2 _ j (by omega) (by omega))⟩
theorem cut_cg {n : Nat} {p p' : Nat → Bool} (h : ∀ t, t < n → p t = p' t) (t : Nat) : cut n p t = cut n p' t := by
  unfold cut
  by_cases e : t < n
  · rw [h t e]
  · rw [decide_eq_false e, Bool.false_and, Bool.false_and]
theorem FS.cg {S : Mem} {i n : Nat} {p q p' q' : Nat → Bool} (h : FS S i n p q) (h1 : ∀ t, t < n → p t = p' t) (h2 : ∀ t, t < n → q t = q' t) : FS S i n p' q' := ⟨h.1.cg (fun t _ => cut_cg h1 t), h.2.cg (fun t _ => cut_cg h2 t)⟩
theorem cut_rot {n : Nat} {p : Nat → Bool} (hn : 1 ≤ n) (t : Nat) : ((if t = 0 then cut n p (n - 1) else cut n p (t - 1)) && !decide (t = n)) = cut n (rot n p) t := by
  unfold cut rot
  by_cases h0 : t = 0
  · rw [if_pos h0, decide_eq_true (show n - 1 < n by omega), decide_eq_false (show ¬ t = n by omega), decide_eq_true (show t < n by omega), Bool.not_false, Bool.and_true, h0, Nat.zero_add, Nat.mod_eq_of_lt (show n - 1 < n by omega)]
  · rw [if_neg h0]
    by_cases h1 : t < n
    · have e : (t + (n - 1)) % n = t - 1 := by
        rw [show t + (n - 1) = (t - 1) + n by omega, Nat.add_mod_right, Nat.mod_eq_of_lt (by omega)]
      rw [decide_eq_true (show t - 1 < n by omega), decide_eq_false (show ¬ t = n by omega), decide_eq_true h1, Bool.not_false, Bool.and_true, e]
    · rw [decide_eq_false h1, Bool.false_and]
      by_cases h2 : t = n
      · rw [decide_eq_true h2, Bool.not_true, Bool.and_false]
      · rw [decide_eq_false (show ¬ t - 1 < n by omega), Bool.false_and, Bool.false_and]
theorem cntF_zero {f : Nat → Bool} : ∀ d i, (∀ j, i ≤ j → j < i + d → f j = false) → cntF f d i = 0
  | 0, _, _ => rfl
  | d + 1, i, h => by
    unfold cntF
    rw [h i (by omega) (by omega), cntF_zero d (i + 1) (fun j h1 h2 => h j (by omega) (by omega))]
    rfl
theorem cut_cnt {n : Nat} {p q : Nat → Bool} (hn : n ≤ 128) : cntF (fun t => cut n p t && cut n q t) 128 0 = cntF (fun t => p t && q t) n 0 := by
  have e := cntF_app (fun t => cut n p t && cut n q t) n (128 - n) 0
  rw [show n + (128 - n) = 128 by omega] at e
  rw [e, cntF_zero (128 - n) (0 + n) (fun j h1 h2 => by unfold cut; rw [decide_eq_false (by omega)]; rfl), Int.add_zero]
  exact cntF_congr n 0 (fun j h1 h2 => by
    unfold cut
    rw [decide_eq_true (by omega)]
    rfl)
section FE
variable {fu : Nat} {S : Mem}
theorem s_clear2 (i : Nat) : ∃ S' : Mem, f_X2_clear fu i S = some ((), S') ∧ fsF i S S' ∧ SG S' (2 * i) (fun _ => false) ∧ SG S' (2 * i + 1) (fun _ => false) := by
  obtain ⟨S1, a1, a2, a3, a4⟩ := s_clear5 (fu := fu) (S := S) (2 * i)
  obtain ⟨S2, b1', b2', b3, b4⟩ := s_clear5 (fu := fu) (S := S1) (2 * i + 1)
  unfold f_X2_clear
  rw [a1, b2s, b1', b2s]
  exact ⟨S2, rfl, ⟨b2'.trans a2, fun a j q1 q2 => (b4 a j q2).trans (a4 a j q1)⟩, a3.fr (fun j => b4 _ j (by omega)), b3⟩
theorem s_addAll2 {i x : Nat} (hx : x < 128) : ∀ (d t m : Nat) (S : Mem), t + d = x → d < m → SG S (2 * i) (fun u => decide (u < t)) → SG S (2 * i + 1) (fun u => decide (u < t)) → ∃ S' : Mem, f_X2_addAll_2 fu i (i32 (x : Int)) m (i32 (t : Int)) S = some ((), S') ∧ fsF i S S' ∧ FS S' i x (fun _ => true) (fun _ => true) := by
  intro d
  induction d with
  | zero =>
    intro t m S ht hm h1 h2
    obtain ⟨m, rfl⟩ : ∃ m', m = m' + 1 := ⟨m - 1, by omega⟩
    obtain rfl : t = x := by omega
    rw [f_X2_addAll_2, leT (by omega) (by omega) (by omega)]
    exact ⟨S, rfl, fsF.rf, h1.cg (fun u _ => (Bool.and_true _).symm), h2.cg (fun u _ => (Bool.and_true _).symm)⟩
  | succ d ih =>
    intro t m S ht hm h1 h2
    obtain ⟨m, rfl⟩ : ∃ m', m = m' + 1 := ⟨m - 1, by omega⟩
    obtain ⟨S1, a1, a2, a3, a4⟩ := s_add5 (fu := fu) (s := t) (by omega) h1
    obtain ⟨S2, b1', b2', b3, b4⟩ := s_add5 (fu := fu) (s := t) (by omega) (h2.fr (S' := S1) (fun j => a4 _ j (by omega)))
    have e : ∀ u : Nat, u < 128 → (decide (u < t) || decide (u = t)) = decide (u < t + 1) := fun u _ => by
      by_cases h : u < t
      · rw [decide_eq_true h, decide_eq_true (show u < t + 1 by omega)]; rfl
      · by_cases h' : u = t
        · rw [decide_eq_true h', decide_eq_true (show u < t + 1 by omega), Bool.or_true]
        · rw [decide_eq_false h, decide_eq_false h', decide_eq_false (show ¬ u < t + 1 by omega)]; rfl
    obtain ⟨S3, c1, c2, c3⟩ := ih (t + 1) m S2 (by omega) (by omega) ((a3.fr (fun j => b4 _ j (by omega))).cg e) (b3.cg e)
    have e3 : i32 (t : Int) + 1 = i32 ((t + 1 : Nat) : Int) := by rw [q_1, q_add]; rfl
    rw [f_X2_addAll_2, leF (by omega) (by omega) (by omega), a1, b2s, b1', b2s, e3]
    exact ⟨S3, c1, fsF.trans ⟨b2'.trans a2, fun a j q1 q2 => (b4 a j q2).trans (a4 a j q1)⟩ c2, c3⟩
theorem s_com2 {k i1 i2 n : Nat} {p q p' q' : Nat → Bool} (h1 : FS S i1 n p q) (h2 : FS S i2 n p' q') : ∃ S' : Mem, f_X2_becomeCommon fu k i1 i2 S = some ((), S') ∧ fsF k S S' ∧ FS S' k n (fun t => p t && p' t) (fun t => q t && q' t) := by
  have e : ∀ (a b : Nat → Bool) (t : Nat), t < 128 → (cut n a t && cut n b t) = cut n (fun t => a t && b t) t := fun a b t _ => by
    unfold cut
    cases decide (t < n) with
    | false => rfl
    | true => rfl
  obtain ⟨S1, a1, a2, a3, a4⟩ := s_com5 (fu := fu) (k := 2 * k) h1.1 h2.1
  obtain ⟨S2, b1', b2', b3, b4⟩ := s_com5 (fu := fu) (k := 2 * k + 1) (h1.2.fr (S' := S1) (fun j => a4 _ j (by omega))) (h2.2.fr (S' := S1) (fun j => a4 _ j (by omega)))
  unfold f_X2_becomeCommon
  rw [a1, b2s, b1', b2s]
  exact ⟨S2, rfl, ⟨b2'.trans a2, fun a j q1 q2 => (b4 a j q2).trans (a4 a j q1)⟩, (a3.fr (fun j => b4 _ j (by omega))).cg (e p p'), b3.cg (e q q')⟩
theorem s_turn2 {k n : Nat} {p q : Nat → Bool} (hn : 1 ≤ n ∧ n < 128) (h : FS S k n p q) : ∃ S' : Mem, f_X2_turn fu k (i32 (n : Int)) S = some ((), S') ∧ fsF k S S' ∧ FS S' k n (rot n p) (rot n q) := by
  obtain ⟨S1, a1, a2, a3, a4⟩ := s_turn5 (fu := fu) hn h.1
  obtain ⟨S2, b1', b2', b3, b4⟩ := s_turn5 (fu := fu) hn (h.2.fr (S' := S1) (fun j => a4 _ j (by omega)))
  unfold f_X2_turn
  rw [a1, b2s, b1', b2s]
  exact ⟨S2, rfl, ⟨b2'.trans a2, fun a j q1 q2 => (b4 a j q2).trans (a4 a j q1)⟩, (a3.fr (fun j => b4 _ j (by omega))).cg (fun t _ => cut_rot hn.1 t), b3.cg (fun t _ => cut_rot hn.1 t)⟩
theorem s_cnt2 {k i n : Nat} {p q p' q' : Nat → Bool} (hn : n ≤ 128) (h1 : FS S k n p q) (h2 : FS S i n p' q') : f_X2_countCommon fu k i S = some (i32 (cntF (fun t => p t && p' t) n 0 + cntF (fun t => q t && q' t) n 0)) := by
  unfold f_X2_countCommon
  rw [s_cnt5 h1.1 h2.1, b1s, s_cnt5 h1.2 h2.2, b1s, q_add, cut_cnt hn, cut_cnt hn]
theorem s_cntF2 {k n : Nat} {p q : Nat → Bool} (hn : n ≤ 128) (h1 : FS S k n p q) : f_X5_countCommon fu (2 * k) (2 * k) S = some (i32 (cntF p n 0)) ∧ f_X5_countCommon fu (2 * k + 1) (2 * k + 1) S = some (i32 (cntF q n 0)) := by
  constructor
  · rw [s_cnt5 h1.1 h1.1, cut_cnt hn]
    congr 2
    exact cntF_congr n 0 (fun j _ _ => Bool.and_self _)
  · rw [s_cnt5 h1.2 h1.2, cut_cnt hn]
    congr 2
    exact cntF_congr n 0 (fun j _ _ => Bool.and_self _)
end FE
/-! free seconds of a junction, of all. -/
def sml (f : Nat → Int) : Nat → Nat → Int
  | 0, _ => 0
  | d + 1, k => f k + sml f d (k + 1)
theorem sml_end (f : Nat → Int) : ∀ d k, sml f (d + 1) k = sml f d k + f (k + d)
  | 0, k => by
    show f k + 0 = 0 + f (k + 0)
    rw [Nat.add_zero]
    omega
  | d + 1, k => by
    rw [sml, sml_end f d (k + 1), sml, show k + 1 + d = k + (d + 1) by omega]
    omega
def al (h : Nat → Bool) : Nat → Nat → Bool
  | 0, _ => true
  | d + 1, k => h k && al h d (k + 1)
theorem al_iff (h : Nat → Bool) : ∀ d k, al h d k = true ↔ ∀ j, k ≤ j → j < k + d → h j = true
  | 0, k => ⟨fun _ j h1 h2 => absurd h2 (by omega), fun _ => rfl⟩
  | d + 1, k => by
    rw [al, Bool.and_eq_true, al_iff h d (k + 1)]
    constructor
    · intro ⟨h1, h2⟩ j h3 h4
      by_cases e : j = k
      · rw [e]; exact h1
      · exact h2 j (by omega) (by omega)
    · intro h1
      exact ⟨h1 k (by omega) (by omega), fun j h3 h4 => h1 j (by omega) (by omega)⟩
def gF (C : Cf) (k : Nat) (o : Int) (t : Nat) : Bool := (lit (cS C k) (cC C k) (cF C k) (cCy C) (((t : Int) + sml (cLs C) k 0 - o) % cCy C)).testBit 0
def gB (C : Cf) (k : Nat) (o : Int) (t : Nat) : Bool := (lit (cS C k) (cC C k) (cF C k) (cCy C) (((t : Int) + sml (cLs C) (cJ C - 1 - k) k - o) % cCy C)).testBit 1
theorem sml_b {C : Cf} (h1 : okC C) : ∀ d k, k + d + 1 ≤ cJ C → 0 ≤ sml (cLs C) d k ∧ sml (cLs C) d k ≤ 60 * d
  | 0, k, _ => by rw [sml]; omega
  | d + 1, k, h => by
    have h2 := sml_b h1 d (k + 1) (by omega)
    have h3 := h1.2.2.2.2.2 k (by omega)
    rw [sml]
    omega
