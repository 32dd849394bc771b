/-! run: vehicles on a link, the ring; what stays while seconds run. -/
theorem cnt_cons (e : Int) (w : List Int) (r : Nat) : cnt (e :: w) r = cnt w r + (if e % 61 = (r : Int) then 1 else 0) := by
  unfold cnt
  rw [List.countP_cons]
  by_cases h : e % 61 = (r : Int)
  · rw [if_pos h, if_pos (decide_eq_true h)]
  · rw [if_neg h, if_neg (by rw [decide_eq_false h]; exact Bool.false_ne_true)]
theorem cnt_nil (r : Nat) : cnt [] r = 0 := rfl
theorem cnt_app (w : List Int) (e : Int) (r : Nat) : cnt (w ++ [e]) r = cnt w r + (if e % 61 = (r : Int) then 1 else 0) := by
  induction w with
  | nil => rw [List.nil_append, cnt_cons, cnt_nil]
  | cons a w ih => rw [List.cons_append, cnt_cons, cnt_cons, ih]; omega
theorem cnt_zero (w : List Int) (r : Nat) (h : ∀ e, e ∈ w → e % 61 ≠ (r : Int)) : cnt w r = 0 := by
  induction w with
  | nil => rfl
  | cons a w ih => rw [cnt_cons, ih (fun e he => h e (List.mem_cons_of_mem _ he)), if_neg (h a List.mem_cons_self)]
theorem cnt_le (w : List Int) (r : Nat) : cnt w r ≤ w.length := List.countP_le_length
/-- the vehicles whose end is this second are at most one, the first -/
theorem ring_head {t e0 : Int} {w : List Int} (hw : (e0 :: w).Pairwise (· < ·)) (hb : ∀ e, e ∈ e0 :: w → t ≤ e ∧ e < t + 61) (r : Nat) : (e0 = t → cnt (e0 :: w) (t % 61).toNat = 1 ∧ cnt w r = if r = (t % 61).toNat then 0 else cnt (e0 :: w) r) ∧ (e0 ≠ t → cnt (e0 :: w) (t % 61).toNat = 0) := by
  have hp := List.pairwise_cons.mp hw
  have h0 := hb e0 List.mem_cons_self
  have hr : ((t % 61).toNat : Int) = t % 61 := by omega
  have hz : cnt w (t % 61).toNat = 0 := cnt_zero w _ (fun e he => by
    have h1 := hp.1 e he
    have h2 := hb e (List.mem_cons_of_mem _ he)
    omega)
  constructor
  · intro h
    rw [cnt_cons, hz, hr, if_pos (by rw [h])]
    refine ⟨rfl, ?_⟩
    by_cases e : r = (t % 61).toNat
    · rw [if_pos e, e, hz]
    · rw [if_neg e, cnt_cons, if_neg (by rw [h]; omega)]; rfl
  · intro h
    rw [cnt_cons, hz, hr, if_neg (by omega)]
def rcG (S S' : Mem) : Prop := ∀ a b i : Nat, a ≠ 17 → a ≠ 6 → ¬ (a = 3 ∧ (i = 11 ∨ i = 12)) → ¬ (a = 4 ∧ i = 3) → S'.1 a b i = S.1 a b i
def rmG (S S' : Mem) : Prop := ∀ a i : Nat, (a < 30 ∨ 33 < a) → ¬ (a = 8 ∧ 14 ≤ i ∧ i ≤ 17) → S'.1 a 0 i = S.1 a 0 i
theorem kcU.st {S S' : Mem} {k : Nat} {cy o : Int} {u : Option Bus} (h : kcU S k cy o u) (hf : ∀ i, 13 ≤ i → S'.1 3 k i = S.1 3 k i) : kcU S' k cy o u := by
  cases u with
  | none => exact (hf 13 (by omega)).trans h
  | some b =>
    obtain ⟨j1, j2, j3, a, j4, j5⟩ := h
    exact ⟨(hf _ (by omega)).trans j1, (hf _ (by omega)).trans j2, (hf _ (by omega)).trans j3, a, (hf _ (by omega)).trans j4, j5⟩
theorem kcC.st {S S' : Mem} {C : Cf} (h : kcC S C) (hf : rcG S S') : kcC S' C := by
  refine ⟨(hf _ _ _ (by omega) (by omega) (by omega) (by omega)).trans h.1, (hf _ _ _ (by omega) (by omega) (by omega) (by omega)).trans h.2.1, fun k hk => ?_, fun k hk => ⟨(hf _ _ _ (by omega) (by omega) (by omega) (by omega)).trans (h.2.2.2 k hk).1, (hf _ _ _ (by omega) (by omega) (by omega) (by omega)).trans (h.2.2.2 k hk).2⟩⟩
  obtain ⟨j1, j2, j3⟩ := h.2.2.1 k hk
  obtain ⟨w1, w2⟩ := SP_eq (T := S') j1 j2 (fun a i hq => hf _ _ _ (by omega) (by omega) (by omega) (by omega))
  exact ⟨w1, w2, (hf _ _ _ (by omega) (by omega) (by omega) (by omega)).trans j3⟩
/-- l junctions have taken those that come, s have let one leave -/
def okD (C : Cf) (K A M T : Int) (Q R : Nat → Int) (W : Nat → List Int) (l s : Nat) : Prop := 0 ≤ K ∧ K ≤ 7200 ∧ 0 ≤ A ∧ A < 3600 ∧ 0 ≤ M ∧ M ≤ K + (if 0 < l then 1 else 0) ∧ 0 ≤ T ∧ T ≤ K + (if s = cJ C then 1 else 0) ∧ (∀ k, k < cJ C → 0 ≤ Q k ∧ Q k ≤ 7200) ∧ (∀ k, k < cJ C → 0 ≤ R k ∧ R k ≤ 2) ∧ Q 0 ≤ M ∧ ∀ k, k + 1 < cJ C → ((W k).length : Int) + Q (k + 1) ≤ cLr C k ∧ (∀ e, e ∈ W k → K + (if k + 1 < l then 1 else 0) ≤ e ∧ e < K + cLs C k + (if k < s then 1 else 0)) ∧ (W k).Pairwise (· < ·)
