/-! improve: one junction. -/
def setO (C : Cf) (k : Nat) (o : Int) : Cf := (cJ C, cCy C, cS C, cC C, cF C, upI (cO C) k o, cLs C, cLr C)
theorem rot_emod {n : Nat} (hn : 1 ≤ n) (t : Nat) (ht : t < n) (a x : Int) : ((((t + (n - 1)) % n : Nat) : Int) + a - x) % (n : Int) = ((t : Int) + a - (x + 1)) % (n : Int) := by
  by_cases h0 : t = 0
  · rw [h0, Nat.zero_add, Nat.mod_eq_of_lt (show n - 1 < n by omega), show (((n - 1 : Nat)) : Int) + a - x = (((0 : Nat) : Int) + a - (x + 1)) + (n : Int) by omega, Int.add_emod_right]
  · rw [show t + (n - 1) = (t - 1) + n by omega, Nat.add_mod_right, Nat.mod_eq_of_lt (show t - 1 < n by omega)]
    congr 1
    omega
theorem gF_rot {C : Cf} {n k : Nat} (hn : cCy C = (n : Int)) (h1 : 1 ≤ n) (x : Int) (t : Nat) (ht : t < n) : rot n (gF C k x) t = gF C k (x + 1) t := by
  unfold rot gF
  rw [hn, rot_emod h1 t ht]
theorem gB_rot {C : Cf} {n k : Nat} (hn : cCy C = (n : Int)) (h1 : 1 ≤ n) (x : Int) (t : Nat) (ht : t < n) : rot n (gB C k x) t = gB C k (x + 1) t := by
  unfold rot gB
  rw [hn, rot_emod h1 t ht]
/-- the lowest of the best -/
def bst (F : Nat → Int) : Nat → Nat → Nat → Int → Nat
  | 0, _, lo, _ => lo
  | d + 1, x, lo, gr => if F x ≤ gr then bst F d (x + 1) lo gr else bst F d (x + 1) x (F x)
theorem bst_lt (F : Nat → Int) : ∀ (d x lo : Nat) (gr : Int) (n : Nat), x + d ≤ n → lo < n → bst F d x lo gr < n
  | 0, _, _, _, _, _, h => h
  | d + 1, x, lo, gr, n, h, hl => by
    rw [bst]
    split
    · exact bst_lt F d (x + 1) lo gr n (by omega) hl
    · exact bst_lt F d (x + 1) x (F x) n (by omega) (by omega)
theorem bst_cg {F G : Nat → Int} : ∀ (d x lo : Nat) (gr : Int), (∀ y, x ≤ y → y < x + d → F y = G y) → bst F d x lo gr = bst G d x lo gr
  | 0, _, _, _, _ => rfl
  | d + 1, x, lo, gr, h => by
    rw [bst, bst, h x (by omega) (by omega), bst_cg d (x + 1) lo gr (fun y h1 h2 => h y (by omega) (by omega)), bst_cg d (x + 1) x (G x) (fun y h1 h2 => h y (by omega) (by omega))]
theorem bst_0 {F : Nat → Int} {n : Nat} (h0 : 0 ≤ F 0) (hn : 1 ≤ n) : bst F n 0 0 0 = bst F n 0 0 (-1) := by
  obtain ⟨n, rfl⟩ : ∃ n', n = n' + 1 := ⟨n - 1, by omega⟩
  rw [bst, bst, if_neg (show ¬ F 0 ≤ -1 by omega)]
  by_cases e : F 0 ≤ 0
  · rw [if_pos e, show F 0 = 0 by omega]
  · rw [if_neg e]
/-- what both bands are with another offset of one junction -/
def oneS (C : Cf) (n k : Nat) (x : Nat) : Int := cntF (fun t => aF C (cO C) k t && gF C k x t) n 0 + cntF (fun t => aB C (cO C) k t && gB C k x t) n 0
theorem oneS_b (C : Cf) (n k x : Nat) : 0 ≤ oneS C n k x ∧ oneS C n k x ≤ 2 * n := by
  have h1 := cntF_b (fun t => aF C (cO C) k t && gF C k x t) n 0
  have h2 := cntF_b (fun t => aB C (cO C) k t && gB C k x t) n 0
  unfold oneS
  omega
theorem al_one {g h : Nat → Bool} {J k : Nat} (hk : k < J) (he : ∀ j, j ≠ k → h j = g j) : al h J 0 = (al (fun j => decide ((j : Int) = (k : Int)) || g j) J 0 && h k) := by
  rw [Bool.eq_iff_iff, Bool.and_eq_true, al_iff, al_iff]
  constructor
  · intro a
    refine ⟨fun j h1 h2 => ?_, a k (by omega) (by omega)⟩
    by_cases e : j = k
    · rw [decide_eq_true (by omega)]; rfl
    · rw [decide_eq_false (by omega), Bool.false_or, ← he j e]
      exact a j h1 h2
  · intro ⟨a, b⟩ j h1 h2
    by_cases e : j = k
    · rw [e]; exact b
    · have := a j h1 h2
      rw [decide_eq_false (by omega), Bool.false_or, ← he j e] at this
      exact this
theorem bsum_one {C : Cf} {n k x : Nat} (hk : k < cJ C) : bsum C n (upI (cO C) k x) = oneS C n k x := by
  unfold bsum oneS
  congr 1
  · refine cntF_congr n 0 (fun t _ _ => ?_)
    rw [← aF_m, al_one (g := fun j => gF C j (cO C j) t) hk (fun j e => by rw [upI_n e]), upI_s]
    rfl
  · refine cntF_congr n 0 (fun t _ _ => ?_)
    rw [← aB_m, al_one (g := fun j => gB C j (cO C j) t) hk (fun j e => by rw [upI_n e]), upI_s]
    rfl
section IP
variable {fu : Nat} {C : Cf}
theorem s_low6 {n k : Nat} (hn : cCy C = (n : Int)) (h1 : okC C) : ∀ (d x m lo : Nat) (gr : Int) (S : Mem), x + d = n → d < m → lo < n → 0 ≤ gr → gr ≤ 2 * n → S.1 1 0 2 = i32 (cCy C) → FS S 0 n (aF C (cO C) k) (aB C (cO C) k) → FS S 1 n (gF C k x) (gB C k x) → ∃ S' : Mem, f_X0_lowestBestOffset_6 fu m (i32 (lo : Int)) (i32 gr) (i32 (x : Int)) S = some (i32 (bst (oneS C n k) d x lo gr : Int), S') ∧ S'.1 = S.1 := by
  intro d
  have hcy := h1.2.2
  induction d with
  | zero =>
    intro x m lo gr S hx hm hlo hg1 hg2 h12 hF1 hF2
    obtain ⟨m, rfl⟩ : ∃ m', m = m' + 1 := ⟨m - 1, by omega⟩
    rw [f_X0_lowestBestOffset_6, h12, hn, leT (by omega) (by omega) (by omega)]
    exact ⟨S, rfl, rfl⟩
  | succ d ih =>
    intro x m lo gr S hx hm hlo hg1 hg2 h12 hF1 hF2
    obtain ⟨m, rfl⟩ : ∃ m', m = m' + 1 := ⟨m - 1, by omega⟩
    have hb := oneS_b C n k x
    obtain ⟨S1, a1, a2, a3⟩ := s_turn2 (fu := fu) (by omega) hF2
    have a3' : FS S1 1 n (gF C k ((x + 1 : Nat) : Int)) (gB C k ((x + 1 : Nat) : Int)) := a3.cg (fun t ht => gF_rot hn (by omega) _ t ht) (fun t ht => gB_rot hn (by omega) _ t ht)
    have h12' : S1.1 1 0 2 = i32 (cCy C) := by rw [a2.1]; exact h12
    have e3 : i32 (x : Int) + 1 = i32 ((x + 1 : Nat) : Int) := by rw [q_1, q_add]; rfl
    have hc : f_X2_countCommon fu 0 1 S = some (i32 (oneS C n k x)) := s_cnt2 (by omega) hF1 hF2
    unfold f_X0_lowestBestOffset_6 f_X0_lowestBestOffset_41
    rw [h12, hn, leF (by omega) (by omega) (by omega), hc, b1s, a1, b2s, e3, bst]
    by_cases e : oneS C n k x ≤ gr
    · rw [leT e (by omega) (by omega), if_pos e]
      obtain ⟨S', g1, g2⟩ := ih (x + 1) m lo gr S1 (by omega) (by omega) hlo hg1 hg2 h12' (hF1.fr a2 (by omega)) a3'
      exact ⟨S', g1, g2.trans a2.1⟩
    · rw [leF (by omega) (by omega) (by omega), if_neg e, b2s]
      obtain ⟨S', g1, g2⟩ := ih (x + 1) m x (oneS C n k x) S1 (by omega) (by omega) (by omega) hb.1 hb.2 h12' (hF1.fr a2 (by omega)) a3'
      exact ⟨S', g1, g2.trans a2.1⟩
theorem s_imp1 {n k : Nat} {S : Mem} (hfu : 200 ≤ fu) (hn : cCy C = (n : Int)) (h1 : okC C) (h2 : kcC S C) (h0 : ∀ k, k < cJ C → 0 ≤ lef (cS C k) (cC C k) (cCy C)) (hk : k < cJ C) : ∃ S' : Mem, f_X0_improveOffset fu (i32 (k : Int)) S = some (bo (!decide ((bst (oneS C n k) n 0 0 0 : Int) = cO C k)), S') ∧ (∀ a b i, ¬ (a = 3 ∧ b = k ∧ i = 9) → S'.1 a b i = S.1 a b i) ∧ S'.1 3 k 9 = i32 (bst (oneS C n k) n 0 0 0 : Int) := by
  have hcy := h1.2.2
  have hj : 2 ≤ cJ C ∧ cJ C ≤ 5 := ⟨h1.1, h1.2.1⟩
  obtain ⟨S1, a1, a2, a3⟩ := s_common (fu := fu) (w := (k : Int)) hfu h1 h2 h0 hn (by omega)
  have h2' : kcC S1 C := by unfold kcC SJ PLN at *; rw [a2]; exact h2
  obtain ⟨S2, c1, c2, c3⟩ := s_fillF (fu := fu) (i := 1) (o := 0) hfu h1 h2' hk (h0 k hk) hn (by omega)
  obtain ⟨S3, d1, d2⟩ := s_low6 (fu := fu) (n := n) (k := k) hn h1 n 0 fu 0 0 S2 (by omega) (by omega) (by omega) (by omega) (by omega) (by rw [c2.1, a2]; exact h2.2.1) (a3.fr c2 (by omega)) c3
  have hS : S3.1 = S.1 := d2.trans (c2.1.trans a2)
  have hl := bst_lt (oneS C n k) n 0 0 0 n (by omega) (by omega)
  have ho := (h1.2.2.2.2.1 k hk).2
  have c1' : f_X0_fillFrom fu (i32 (k : Int)) 0 1 S1 = some ((), S2) := c1
  have d1' : f_X0_lowestBestOffset_6 fu fu 0 0 0 S2 = some (i32 (bst (oneS C n k) n 0 0 0 : Int), S3) := d1
  unfold f_X0_improveOffset f_X0_lowestBestOffset f_X0_improveOffset_50
  rw [s_at' hj.2 h2.1 hk, b1s, a1, b2s, c1', b2s, d1', b2s, w_eq, (h2.2.2.1 k hk).2.2]
  refine ⟨wI S3 3 k 9 (i32 (bst (oneS C n k) n 0 0 0 : Int)), ?_, fun a b i hq => by rw [w_ne hq, hS], w_eq⟩
  by_cases e : (bst (oneS C n k) n 0 0 0 : Int) = cO C k
  · rw [eqT e, nb_0, decide_eq_true e]; rfl
  · rw [eqF e (by omega) (by omega) (by omega) (by omega), nb_1, decide_eq_false e]; rfl
end IP
