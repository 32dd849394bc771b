/-! A junction's plan in whole numbers: sets s, clearances c (by 4 m + o), flows f, the cycle cy. -/
def imx (a b : Int) : Int := if a < b then b else a
def mxs (f : Nat → Int) : Nat → Int
  | 0 => 0
  | n + 1 => imx (mxs f n) (f n)
def sms (f : Nat → Int) : Nat → Int
  | 0 => 0
  | n + 1 => sms f n + f n
def mny (s : Nat → Nat) : Nat := if s 1 = 0 then 1 else if s 2 = 0 then 2 else if s 3 = 0 then 3 else 4
def nxt (m p : Nat) : Nat := if p + 1 < m then p + 1 else 0
def cl2 (c : Nat → Int) (a b : Nat) (q : Nat) : Int := if a.testBit (q / 4) = true ∧ b.testBit (q % 4) = true then c q else 0
def clr (s : Nat → Nat) (c : Nat → Int) (p : Nat) : Int := mxs (cl2 c (s p) (s (nxt (mny s) p))) 16
def lst (s : Nat → Nat) (p : Nat) : Int := if (s p).testBit 3 = true then 8 else 5
def wgt (s : Nat → Nat) (f : Nat → Int) (p : Nat) : Int := mxs (fun m => if (s p).testBit m = true then f m else 0) 4
def lef (s : Nat → Nat) (c : Nat → Int) (cy : Int) : Int := cy - sms (fun p => clr s c p + lst s p) (mny s)
def wts (s : Nat → Nat) (f : Nat → Int) : Int := sms (wgt s f) (mny s)
def shr (s : Nat → Nat) (c f : Nat → Int) (cy : Int) (p : Nat) : Int := if wts s f = 0 then (lef s c cy).tdiv (mny s : Int) else (lef s c cy * wgt s f p).tdiv (wts s f)
def rst (s : Nat → Nat) (c f : Nat → Int) (cy : Int) : Int := lef s c cy - sms (shr s c f cy) (mny s)
def grn (s : Nat → Nat) (c f : Nat → Int) (cy : Int) (p : Nat) : Int := lst s p + shr s c f cy p + (if (p : Int) < rst s c f cy then 1 else 0)
/-- the phase whose green holds the place x; -1 in a clearing -/
def pha (g c : Nat → Int) : Nat → Nat → Int → Int
  | 0, _, _ => -1
  | n + 1, p, x => if x < g p then (p : Int) else if x < g p + c p then -1 else pha g c n (p + 1) (x - (g p + c p))
theorem imx_le {a b : Int} (h : b ≤ a) : imx a b = a := if_neg (by omega)
theorem imx_lt {a b : Int} (h : a < b) : imx a b = b := if_pos h
theorem imx_ge {a b : Int} : a ≤ imx a b ∧ b ≤ imx a b := by
  unfold imx; split <;> omega
theorem imx_cases (a b : Int) : imx a b = a ∨ imx a b = b := by
  unfold imx; split
  · exact Or.inr rfl
  · exact Or.inl rfl
theorem mxs_nn (f : Nat → Int) : ∀ n, 0 ≤ mxs f n
  | 0 => Int.le_refl 0
  | n + 1 => Int.le_trans (mxs_nn f n) imx_ge.1
theorem mxs_le {f : Nat → Int} {b : Int} (hb : 0 ≤ b) : ∀ n, (∀ i, i < n → f i ≤ b) → mxs f n ≤ b
  | 0, _ => hb
  | n + 1, h => by
    have h1 := mxs_le hb n (fun i hi => h i (by omega))
    have h2 := h n (by omega)
    show imx (mxs f n) (f n) ≤ b
    rcases imx_cases (mxs f n) (f n) with e | e <;> rw [e] <;> omega
theorem sms_le {f : Nat → Int} {b : Int} : ∀ n, (∀ i, i < n → f i ≤ b) → sms f n ≤ n * b
  | 0, _ => by show (0 : Int) ≤ _; simp
  | n + 1, h => by
    have h1 := sms_le n (fun i hi => h i (by omega))
    have h2 := h n (by omega)
    show sms f n + f n ≤ ((n + 1 : Nat) : Int) * b
    have : ((n + 1 : Nat) : Int) * b = n * b + b := by rw [Int.natCast_add, Int.add_mul]; simp
    omega
theorem sms_ge {f : Nat → Int} {b : Int} : ∀ n, (∀ i, i < n → b ≤ f i) → n * b ≤ sms f n
  | 0, _ => by show _ ≤ (0 : Int); simp
  | n + 1, h => by
    have h1 := sms_ge n (fun i hi => h i (by omega))
    have h2 := h n (by omega)
    show ((n + 1 : Nat) : Int) * b ≤ sms f n + f n
    have : ((n + 1 : Nat) : Int) * b = n * b + b := by rw [Int.natCast_add, Int.add_mul]; simp
    omega
theorem sms_congr {f g : Nat → Int} : ∀ n, (∀ i, i < n → f i = g i) → sms f n = sms g n
  | 0, _ => rfl
  | n + 1, h => by
    show sms f n + f n = sms g n + g n
    rw [sms_congr n (fun i hi => h i (by omega)), h n (by omega)]
theorem sms_add (f g : Nat → Int) : ∀ n, sms (fun i => f i + g i) n = sms f n + sms g n
  | 0 => rfl
  | n + 1 => by
    show sms (fun i => f i + g i) n + (f n + g n) = sms f n + f n + (sms g n + g n)
    rw [sms_add f g n]; omega
theorem mny_le (s : Nat → Nat) : 1 ≤ mny s ∧ mny s ≤ 4 := by
  unfold mny
  split
  · omega
  · split
    · omega
    · split <;> omega
theorem nxt_lt {m p : Nat} (h : 0 < m) : nxt m p < m := by unfold nxt; split <;> omega
theorem clr_nn (s : Nat → Nat) (c : Nat → Int) (p : Nat) : 0 ≤ clr s c p := mxs_nn _ _
theorem clr_le {s : Nat → Nat} {c : Nat → Int} (hc : ∀ q, q < 16 → c q ≤ 9) (p : Nat) : clr s c p ≤ 9 := mxs_le (by omega) 16 (fun i hi => by
  unfold cl2; split
  · exact hc i hi
  · omega)
theorem lst_b (s : Nat → Nat) (p : Nat) : 5 ≤ lst s p ∧ lst s p ≤ 8 := by unfold lst; split <;> omega
theorem wgt_nn (s : Nat → Nat) (f : Nat → Int) (p : Nat) : 0 ≤ wgt s f p := mxs_nn _ _
theorem wgt_le {s : Nat → Nat} {f : Nat → Int} (hf : ∀ m, m < 4 → f m ≤ 1800) (p : Nat) : wgt s f p ≤ 1800 := mxs_le (by omega) 4 (fun i hi => by
  split
  · exact hf i hi
  · omega)
/-- THE PLAN FILLS THE CYCLE: the shares leave less than a second for each phase -/
theorem shares_le {w : Nat → Int} {l W : Int} (hW : 0 < W) : ∀ n, sms (fun p => (l * w p) / W) n * W ≤ l * sms w n ∧ l * sms w n ≤ sms (fun p => (l * w p) / W) n * W + (n : Int) * (W - 1)
  | 0 => by
    show (0 : Int) * W ≤ l * 0 ∧ l * 0 ≤ 0 * W + ((0 : Nat) : Int) * (W - 1)
    simp
  | n + 1 => by
    obtain ⟨h1, h2⟩ := shares_le (w := w) (l := l) hW n
    have e1 := Int.mul_ediv_add_emod (l * w n) W
    have e2 := Int.emod_nonneg (l * w n) (show W ≠ 0 by omega)
    have e3 := Int.emod_lt_of_pos (l * w n) hW
    show (sms (fun p => (l * w p) / W) n + l * w n / W) * W ≤ l * (sms w n + w n) ∧ l * (sms w n + w n) ≤ (sms (fun p => (l * w p) / W) n + l * w n / W) * W + ((n + 1 : Nat) : Int) * (W - 1)
    rw [Int.add_mul, Int.mul_add, Int.mul_comm (l * w n / W) W]
    have e4 : ((n + 1 : Nat) : Int) * (W - 1) = n * (W - 1) + (W - 1) := by rw [Int.natCast_add, Int.add_mul]; simp
    rw [e4]
    generalize sms (fun p => (l * w p) / W) n * W = a at *
    generalize W * (l * w n / W) = bb at *
    generalize l * sms w n = cc at *
    generalize l * w n = dd at *
    generalize (n : Int) * (W - 1) = ee at *
    omega
theorem sms_ind {r : Int} (h0 : 0 ≤ r) : ∀ n : Nat, r ≤ (n : Int) → sms (fun p => if (p : Int) < r then 1 else 0) n = r
  | 0, h => by show (0 : Int) = r; omega
  | n + 1, h => by
    show sms (fun p => if (p : Int) < r then 1 else 0) n + (if (n : Int) < r then 1 else 0) = r
    by_cases e : (n : Int) < r
    · have hr : r = n + 1 := by omega
      have h1 : ∀ m : Nat, (m : Int) ≤ n → sms (fun p => if (p : Int) < r then (1 : Int) else 0) m = m := by
        intro m
        induction m with
        | zero => intro _; rfl
        | succ m ih =>
          intro hm
          show sms (fun p => if (p : Int) < r then (1 : Int) else 0) m + (if (m : Int) < r then 1 else 0) = ((m + 1 : Nat) : Int)
          rw [ih (by omega), if_pos (by omega)]
          omega
      rw [h1 n (by omega), if_pos e]
      omega
    · rw [if_neg e, sms_ind h0 n (by omega)]
      omega
section PL
variable {s : Nat → Nat} {c f : Nat → Int} {cy : Int}
theorem wts_nn : 0 ≤ wts s f := by
  have := sms_ge (f := wgt s f) (b := 0) (mny s) (fun i _ => wgt_nn s f i)
  simp at this
  exact this
theorem shr_ediv (h : 0 ≤ lef s c cy) (p : Nat) : shr s c f cy p = if wts s f = 0 then lef s c cy / (mny s : Int) else (lef s c cy * wgt s f p) / wts s f := by
  unfold shr
  split
  · exact Int.tdiv_eq_ediv_of_nonneg h
  · exact Int.tdiv_eq_ediv_of_nonneg (Int.mul_nonneg h (wgt_nn s f p))
theorem shr_nn (h : 0 ≤ lef s c cy) (p : Nat) : 0 ≤ shr s c f cy p := by
  rw [shr_ediv h]
  split
  · exact Int.ediv_nonneg h (by omega)
  · exact Int.ediv_nonneg (Int.mul_nonneg h (wgt_nn s f p)) wts_nn
theorem rst_b (h : 0 ≤ lef s c cy) : 0 ≤ rst s c f cy ∧ rst s c f cy < mny s := by
  have hm := (mny_le s).1
  unfold rst
  have e : sms (shr s c f cy) (mny s) = sms (fun p => if wts s f = 0 then lef s c cy / (mny s : Int) else (lef s c cy * wgt s f p) / wts s f) (mny s) := sms_congr _ (fun i _ => shr_ediv h i)
  rw [e]
  by_cases hw : wts s f = 0
  · simp only [if_pos hw]
    have e1 := Int.mul_ediv_add_emod (lef s c cy) (mny s : Int)
    have e2 := Int.emod_nonneg (lef s c cy) (show (mny s : Int) ≠ 0 by omega)
    have e3 := Int.emod_lt_of_pos (lef s c cy) (show (0 : Int) < mny s by omega)
    have h1 := sms_le (f := fun _ => lef s c cy / (mny s : Int)) (b := lef s c cy / (mny s : Int)) (mny s) (fun i _ => Int.le_refl _)
    have h2 := sms_ge (f := fun _ => lef s c cy / (mny s : Int)) (b := lef s c cy / (mny s : Int)) (mny s) (fun i _ => Int.le_refl _)
    omega
  · simp only [if_neg hw]
    have hW : 0 < wts s f := by have := wts_nn (s := s) (f := f); omega
    obtain ⟨h1, h2⟩ := shares_le (w := wgt s f) (l := lef s c cy) hW (mny s)
    have e1 : sms (wgt s f) (mny s) = wts s f := rfl
    rw [e1] at h1 h2
    generalize sms (fun p => lef s c cy * wgt s f p / wts s f) (mny s) = a at *
    generalize wts s f = W at *
    generalize lef s c cy = l at *
    have h3 : a ≤ l := Int.le_of_mul_le_mul_right h1 hW
    refine ⟨by omega, ?_⟩
    have h4 : l * W < (a + mny s) * W := by
      rw [Int.add_mul]
      have e5 : (mny s : Int) * (W - 1) = mny s * W - mny s := by rw [Int.mul_sub]; simp
      rw [e5] at h2
      omega
    have h5 := Int.lt_of_mul_lt_mul_right h4 (Int.le_of_lt hW)
    omega
theorem grn_sum (h : 0 ≤ lef s c cy) : sms (grn s c f cy) (mny s) = sms (lst s) (mny s) + lef s c cy := by
  have hr := rst_b (f := f) h
  have e1 : sms (grn s c f cy) (mny s) = sms (fun p => (lst s p + shr s c f cy p) + (if (p : Int) < rst s c f cy then 1 else 0)) (mny s) := rfl
  rw [e1, sms_add (fun p => lst s p + shr s c f cy p), sms_add (lst s) (shr s c f cy), sms_ind hr.1 (mny s) (by omega)]
  have : rst s c f cy = lef s c cy - sms (shr s c f cy) (mny s) := rfl
  omega
/-- the greens and clearings of a plan are the cycle -/
theorem plan_sum (h : 0 ≤ lef s c cy) : sms (fun p => grn s c f cy p + clr s c p) (mny s) = cy := by
  rw [sms_add (grn s c f cy) (clr s c), grn_sum h]
  have e : lef s c cy = cy - sms (fun p => clr s c p + lst s p) (mny s) := rfl
  rw [sms_add (clr s c) (lst s)] at e
  omega
theorem grn_ge (h : 0 ≤ lef s c cy) (p : Nat) : lst s p ≤ grn s c f cy p := by
  have := shr_nn (f := f) h p
  unfold grn
  split <;> omega
theorem sms_one {g : Nat → Int} (hg : ∀ i, 0 ≤ g i) : ∀ {n p : Nat}, p < n → g p ≤ sms g n
  | n + 1, p, h => by
    show g p ≤ sms g n + g n
    have h0 := sms_ge (f := g) (b := 0) n (fun i _ => hg i)
    simp at h0
    by_cases e : p = n
    · subst e; omega
    · have := sms_one hg (n := n) (p := p) (by omega)
      have := hg n
      omega
theorem grn_le (h : 0 ≤ lef s c cy) {p : Nat} (hp : p < mny s) : grn s c f cy p + clr s c p ≤ cy := by
  have h1 := sms_one (g := fun p => grn s c f cy p + clr s c p) (fun i => by
    have := grn_ge (f := f) h i
    have := (lst_b s i).1
    have := clr_nn s c i
    show 0 ≤ grn s c f cy i + clr s c i
    omega) hp
  rw [plan_sum h] at h1
  exact h1
end PL
