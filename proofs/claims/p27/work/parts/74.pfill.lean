/-! the class fills its sets. -/
section FL
variable {fu : Nat} {S : Mem} {C : Cf}
theorem s_put {k t : Nat} {g : Nat → Bool} (ht : t < 128) (h : SG S k (fun u => decide (u < t) && g u)) : ∃ S' : Mem, (∀ K : Mem → Option (Unit × Mem), (if bo (g t) = 0 then K S else b2 (f_X5_add fu k (i32 (t : Int)) S) (fun _ T => K T)) = K S') ∧ S'.1 = S.1 ∧ SG S' k (fun u => decide (u < t + 1) && g u) ∧ ∀ i j, i ≠ k → S'.2 5 i j = S.2 5 i j := by
  cases hg : g t with
  | false =>
    refine ⟨S, fun K => boF rfl, rfl, h.cg (fun u _ => ?_), fun i j _ => rfl⟩
    by_cases e : u = t
    · rw [e, hg, Bool.and_false, Bool.and_false]
    · congr 1
      exact decide_eq_decide.mpr (by omega)
  | true =>
    obtain ⟨S', a1, a2, a3, a4⟩ := s_add5 (fu := fu) ht h
    refine ⟨S', fun K => ?_, a2, a3.cg (fun u _ => ?_), a4⟩
    · rw [boT rfl, a1, b2s]
    · by_cases e : u = t
      · rw [e, hg, decide_eq_true (show t < t + 1 by omega), decide_eq_true rfl, Bool.or_true]; rfl
      · rw [decide_eq_false e, Bool.or_false]
        congr 1
        exact decide_eq_decide.mpr (by omega)
theorem s_fl47 {k i n : Nat} {o : Int} {x1 : Int32} (h1 : okC C) (hk : k < cJ C) (h0 : 0 ≤ lef (cS C k) (cC C k) (cCy C)) (hn : cCy C = (n : Int)) (ho : 0 ≤ o ∧ o < cCy C) : ∀ (d t m : Nat) (S : Mem), t + d = n → d < m → kcC S C → SG S (2 * i) (fun u => decide (u < t) && gF C k o u) → SG S (2 * i + 1) (fun u => decide (u < t) && gB C k o u) → ∃ S' : Mem, f_X0_fillFrom_47 fu x1 (i32 o) i m k (i32 (sml (cLs C) k 0)) (i32 (sml (cLs C) (cJ C - 1 - k) k)) (i32 (t : Int)) S = some ((), S') ∧ fsF i S S' ∧ FS S' i n (gF C k o) (gB C k o) := by
  intro d
  have hcy := h1.2.2
  have hb1 := sml_b h1 k 0 (by omega)
  have hb2 := sml_b h1 (cJ C - 1 - k) k (by omega)
  have hj := h1.2.1
  obtain ⟨hoJ, -⟩ := h1.2.2.2.2.1 k hk
  induction d with
  | zero =>
    intro t m S ht hm h2 hs1 hs2
    obtain ⟨m, rfl⟩ : ∃ m', m = m' + 1 := ⟨m - 1, by omega⟩
    obtain rfl : t = n := by omega
    rw [f_X0_fillFrom_47, h2.2.1, hn, leT (by omega) (by omega) (by omega)]
    exact ⟨S, rfl, fsF.rf, hs1, hs2⟩
  | succ d ih =>
    intro t m S ht hm h2 hs1 hs2
    obtain ⟨m, rfl⟩ : ∃ m', m = m' + 1 := ⟨m - 1, by omega⟩
    obtain ⟨S1, a1, a2, a3, a4⟩ := s_put (fu := fu) (t := t) (by omega) hs1
    obtain ⟨S2, b1', b2', b3, b4⟩ := s_put (fu := fu) (t := t) (by omega) (hs2.fr (S' := S1) (fun j => a4 _ j (by omega)))
    have h2' : kcC S1 C := by unfold kcC SJ PLN at *; rw [a2]; exact h2
    have h2'' : kcC S2 C := by unfold kcC SJ PLN at *; rw [b2', a2]; exact h2
    obtain ⟨S3, c1, c2, c3⟩ := ih (t + 1) m S2 (by omega) (by omega) h2'' (a3.fr (fun j => b4 _ j (by omega))) b3
    have e3 : i32 (t : Int) + 1 = i32 ((t + 1 : Nat) : Int) := by rw [q_1, q_add]; rfl
    have p1 := (h2.2.2.1 k hk)
    have p2 := (h2'.2.2.1 k hk)
    have l1 : f_X3_isLitFrom fu k (i32 o) 0 (i32 ((t : Int) + sml (cLs C) k 0)) S = some (bo (gF C k o t)) := s_isLitFrom (m := 0) p1.1.2.1 hoJ (p1.2.1.2.2 h0).2 (lit_lt hoJ) (by omega) (by omega) (by omega)
    have l2 : f_X3_isLitFrom fu k (i32 o) 1 (i32 ((t : Int) + sml (cLs C) (cJ C - 1 - k) k)) S1 = some (bo (gB C k o t)) := s_isLitFrom (m := 1) p2.1.2.1 hoJ (p2.2.1.2.2 h0).2 (lit_lt hoJ) (by omega) (by omega) (by omega)
    rw [f_X0_fillFrom_47, h2.2.1, hn, leF (by omega) (by omega) (by omega), q_add, l1, b1s]
    refine ⟨S3, ?_, fsF.trans ⟨b2'.trans a2, fun a j q1 q2 => (b4 a j q2).trans (a4 a j q1)⟩ c2, c3⟩
    refine (a1 (fun T => f_X0_fillFrom_83 fu (f_X0_fillFrom_47 fu x1 (i32 o) i m) x1 (i32 o) i k (i32 (sml (cLs C) k 0)) (i32 (sml (cLs C) (cJ C - 1 - k) k)) (i32 (t : Int)) T)).trans ?_
    unfold f_X0_fillFrom_83
    rw [q_add, l2, b1s]
    refine (b1' (fun T => f_X0_fillFrom_107 fu (f_X0_fillFrom_47 fu x1 (i32 o) i m) x1 (i32 o) i k (i32 (sml (cLs C) k 0)) (i32 (sml (cLs C) (cJ C - 1 - k) k)) (i32 (t : Int)) T)).trans ?_
    unfold f_X0_fillFrom_107
    rw [e3]
    exact c1
theorem s_sb {x1 : Int32} {e : Nat} (h1 : okC C) (h2 : kcC S C) (hE : e + 1 ≤ cJ C) : ∀ (d k m : Nat) (acc : Int), k + d = e → d < m → 0 ≤ acc → acc ≤ 60 * k → f_X1_secondsBetween_5 fu x1 (i32 (e : Int)) S m (i32 acc) (i32 (k : Int)) = some (i32 (acc + sml (cLs C) d k)) := by
  intro d
  have hj := h1.2.1
  induction d with
  | zero =>
    intro k m acc hk hm _ _
    obtain ⟨m, rfl⟩ : ∃ m', m = m' + 1 := ⟨m - 1, by omega⟩
    rw [f_X1_secondsBetween_5, leT (by omega) (by omega) (by omega), sml, Int.add_zero]
  | succ d ih =>
    intro k m acc hk hm ha hb
    obtain ⟨m, rfl⟩ : ∃ m', m = m' + 1 := ⟨m - 1, by omega⟩
    have h3 := h1.2.2.2.2.2 k (by omega)
    have e3 : i32 (k : Int) + 1 = i32 ((k + 1 : Nat) : Int) := by rw [q_1, q_add]; rfl
    rw [f_X1_secondsBetween_5, leF (by omega) (by omega) (by omega), s_at' hj h2.1 (by omega), b1s, (h2.2.2.2 k (by omega)).1, q_add, e3, ih (k + 1) m (acc + cLs C k) (by omega) (by omega) (by omega) (by omega), sml]
    congr 2
    omega
theorem s_fillF {k i n : Nat} {o : Int} (hfu : 200 ≤ fu) (h1 : okC C) (h2 : kcC S C) (hk : k < cJ C) (h0 : 0 ≤ lef (cS C k) (cC C k) (cCy C)) (hn : cCy C = (n : Int)) (ho : 0 ≤ o ∧ o < cCy C) : ∃ S' : Mem, f_X0_fillFrom fu (i32 (k : Int)) (i32 o) i S = some ((), S') ∧ fsF i S S' ∧ FS S' i n (gF C k o) (gB C k o) := by
  have hj : 2 ≤ cJ C ∧ cJ C ≤ 5 := ⟨h1.1, h1.2.1⟩
  have hcy := h1.2.2
  have e1 : f_X1_secondsBetween fu 0 (i32 (k : Int)) S = some (i32 (sml (cLs C) k 0)) := by
    have := s_sb (fu := fu) (x1 := 0) (e := k) h1 h2 (by omega) k 0 fu 0 (by omega) (by omega) (by omega) (by omega)
    rw [Int.zero_add] at this
    exact this
  have ej : S.1 1 0 1 - 1 = i32 ((cJ C - 1 : Nat) : Int) := by
    rw [h2.1, q_1, q_sub]; congr 1; omega
  have e2 : f_X1_secondsBetween fu (i32 (k : Int)) (S.1 1 0 1 - 1) S = some (i32 (sml (cLs C) (cJ C - 1 - k) k)) := by
    rw [ej]
    have := s_sb (fu := fu) (x1 := i32 (k : Int)) (e := cJ C - 1) h1 h2 (by omega) (cJ C - 1 - k) k fu 0 (by omega) (by omega) (by omega) (by omega)
    rw [Int.zero_add] at this
    exact this
  obtain ⟨S1, a1, a2, a3, a4⟩ := s_clear2 (fu := fu) (S := S) i
  have h2' : kcC S1 C := by unfold kcC SJ PLN at *; rw [a2.1]; exact h2
  obtain ⟨S2, b1', b2', b3⟩ := s_fl47 (fu := fu) (x1 := i32 (k : Int)) h1 hk h0 hn ho n 0 fu S1 (by omega) (by omega) h2' (a3.cg (fun u _ => by rw [decide_eq_false (by omega)]; rfl)) (a4.cg (fun u _ => by rw [decide_eq_false (by omega)]; rfl))
  unfold f_X0_fillFrom
  rw [s_at' hj.2 h2.1 hk, b1s, e1, b1s, e2, b1s, a1, b2s]
  exact ⟨S2, b1', fsF.trans a2 b2', b3⟩
/-- free at all junctions but one -/
def aF (C : Cf) (O : Nat → Int) (w : Int) (t : Nat) : Bool := al (fun j => decide ((j : Int) = w) || gF C j (O j) t) (cJ C) 0
def aB (C : Cf) (O : Nat → Int) (w : Int) (t : Nat) : Bool := al (fun j => decide ((j : Int) = w) || gB C j (O j) t) (cJ C) 0
theorem s_fc23 {n : Nat} {w : Int} (hfu : 200 ≤ fu) (h1 : okC C) (h0 : ∀ k, k < cJ C → 0 ≤ lef (cS C k) (cC C k) (cCy C)) (hn : cCy C = (n : Int)) (hw : -1 ≤ w ∧ w < 100) : ∀ (d k m : Nat) (S : Mem) (p q : Nat → Bool), k + d = cJ C → d < m → kcC S C → FS S 0 n p q → ∃ S' : Mem, f_X0_fillCommon_23 fu (i32 w) m (i32 (k : Int)) S = some ((), S') ∧ S'.1 = S.1 ∧ FS S' 0 n (fun t => p t && al (fun j => decide ((j : Int) = w) || gF C j (cO C j) t) d k) (fun t => q t && al (fun j => decide ((j : Int) = w) || gB C j (cO C j) t) d k) := by
  intro d
  have hj : 2 ≤ cJ C ∧ cJ C ≤ 5 := ⟨h1.1, h1.2.1⟩
  induction d with
  | zero =>
    intro k m S p q hk hm h2 hF
    obtain ⟨m, rfl⟩ : ∃ m', m = m' + 1 := ⟨m - 1, by omega⟩
    rw [f_X0_fillCommon_23, h2.1, leT (by omega) (by omega) (by omega)]
    exact ⟨S, rfl, rfl, hF.cg (fun t _ => (Bool.and_true _).symm) (fun t _ => (Bool.and_true _).symm)⟩
  | succ d ih =>
    intro k m S p q hk hm h2 hF
    obtain ⟨m, rfl⟩ : ∃ m', m = m' + 1 := ⟨m - 1, by omega⟩
    have e3 : i32 (k : Int) + 1 = i32 ((k + 1 : Nat) : Int) := by rw [q_1, q_add]; rfl
    rw [f_X0_fillCommon_23, h2.1, leF (by omega) (by omega) (by omega)]
    unfold f_X0_fillCommon_74
    rw [e3]
    by_cases e : (k : Int) = w
    · obtain ⟨S', a1, a2, a3⟩ := ih (k + 1) m S p q (by omega) (by omega) h2 hF
      rw [eqT e]
      exact ⟨S', a1, a2, a3.cg (fun t _ => by rw [al, decide_eq_true e]; rfl) (fun t _ => by rw [al, decide_eq_true e]; rfl)⟩
    · obtain ⟨-, hoo⟩ := h1.2.2.2.2.1 k (by omega)
      obtain ⟨S1, a1, a2, a3⟩ := s_fillF (fu := fu) (i := 1) hfu h1 h2 (by omega) (h0 k (by omega)) hn hoo
      obtain ⟨S2, b1', b2', b3⟩ := s_com2 (fu := fu) (k := 0) (hF.fr a2 (by omega)) a3
      have hS2 : S2.1 = S.1 := b2'.1.trans a2.1
      have h2' : kcC S2 C := by unfold kcC SJ PLN at *; rw [hS2]; exact h2
      obtain ⟨S3, c1, c2, c3⟩ := ih (k + 1) m S2 _ _ (by omega) (by omega) h2' b3
      rw [eqF e (by omega) (by omega) (by omega) (by omega), s_at' hj.2 h2.1 (by omega), b1s, (h2.2.2.1 k (by omega)).2.2, a1, b2s, b1', b2s]
      refine ⟨S3, c1, c2.trans hS2, c3.cg (fun t _ => ?_) (fun t _ => ?_)⟩
      · rw [al, decide_eq_false e, Bool.false_or, Bool.and_assoc]
      · rw [al, decide_eq_false e, Bool.false_or, Bool.and_assoc]
theorem s_common {n : Nat} {w : Int} (hfu : 200 ≤ fu) (h1 : okC C) (h2 : kcC S C) (h0 : ∀ k, k < cJ C → 0 ≤ lef (cS C k) (cC C k) (cCy C)) (hn : cCy C = (n : Int)) (hw : -1 ≤ w ∧ w < 100) : ∃ S' : Mem, f_X0_fillCommon fu (i32 w) S = some ((), S') ∧ S'.1 = S.1 ∧ FS S' 0 n (aF C (cO C) w) (aB C (cO C) w) := by
  have hcy := h1.2.2
  have hj := h1.2.1
  obtain ⟨S1, a1, a2, a3, a4⟩ := s_clear2 (fu := fu) (S := S) 0
  obtain ⟨S2, b1', b2', b3⟩ := s_addAll2 (fu := fu) (i := 0) (x := n) (by omega) n 0 fu S1 (by omega) (by omega) (a3.cg (fun u _ => (decide_eq_false (by omega)).symm)) (a4.cg (fun u _ => (decide_eq_false (by omega)).symm))
  have hS2 : S2.1 = S.1 := b2'.1.trans a2.1
  have h2' : kcC S2 C := by unfold kcC SJ PLN at *; rw [hS2]; exact h2
  obtain ⟨S3, c1, c2, c3⟩ := s_fc23 (fu := fu) hfu h1 h0 hn hw (cJ C) 0 fu S2 _ _ (by omega) (by omega) h2' b3
  unfold f_X0_fillCommon f_X2_addAll
  rw [a1, b2s, a2.1, h2.2.1, hn]
  have b1'' : f_X2_addAll_2 fu 0 (i32 (n : Int)) fu 0 S1 = some ((), S2) := b1'
  rw [b1'', b2s]
  exact ⟨S3, c1, c2.trans hS2, c3.cg (fun t _ => Bool.true_and _) (fun t _ => Bool.true_and _)⟩
end FL
