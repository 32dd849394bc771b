/-! The class's lights, and its plan whole. -/
def gcs (g c : Nat → Int) (p : Nat) : Int := g p + c p
theorem pha_skip {g c : Nat → Int} (hg : ∀ i, 0 ≤ g i) (hc : ∀ i, 0 ≤ c i) : ∀ (p d : Nat) (x : Int), sms (gcs g c) p ≤ x → pha g c (p + d) 0 x = pha g c d p (x - sms (gcs g c) p)
  | 0, d, x, _ => by
    show pha g c (0 + d) 0 x = pha g c d 0 (x - 0)
    rw [Nat.zero_add, Int.sub_zero]
  | p + 1, d, x, h => by
    have e : sms (gcs g c) (p + 1) = sms (gcs g c) p + (g p + c p) := rfl
    have h1 := hg p
    have h2 := hc p
    rw [show p + 1 + d = p + (d + 1) by omega, pha_skip hg hc p (d + 1) x (by omega), pha, if_neg (by omega), if_neg (by omega), e]
    congr 1
    omega
def lit (s : Nat → Nat) (c f : Nat → Int) (cy x : Int) : Nat := if pha (grn s c f cy) (clr s c) (mny s) 0 x = -1 then 0 else s (pha (grn s c f cy) (clr s c) (mny s) 0 x).toNat
section DL
variable {fu k : Nat} {s : Nat → Nat} {c f : Nat → Int} {cy : Int}
theorem grn_nn (h0 : 0 ≤ lef s c cy) (i : Nat) : 0 ≤ grn s c f cy i := by
  have := grn_ge (f := f) h0 i
  have := (lst_b s i).1
  omega
theorem pha_in (h0 : 0 ≤ lef s c cy) {p : Nat} (hp : p < mny s) {x : Int} (h1 : sms (gcs (grn s c f cy) (clr s c)) p ≤ x) (h2 : x < sms (gcs (grn s c f cy) (clr s c)) p + grn s c f cy p) : pha (grn s c f cy) (clr s c) (mny s) 0 x = (p : Int) := by
  have e := pha_skip (g := grn s c f cy) (c := clr s c) (fun i => grn_nn h0 i) (fun i => clr_nn s c i) p (mny s - p - 1 + 1) x h1
  rw [show p + (mny s - p - 1 + 1) = mny s by omega] at e
  rw [e, pha, if_pos (by omega)]
theorem pha_out (h0 : 0 ≤ lef s c cy) {p : Nat} (hp : p < mny s) {x : Int} (h1 : sms (gcs (grn s c f cy) (clr s c)) p + grn s c f cy p ≤ x) (h2 : x < sms (gcs (grn s c f cy) (clr s c)) (p + 1)) : pha (grn s c f cy) (clr s c) (mny s) 0 x = -1 := by
  have hg := grn_nn (f := f) h0 p
  have e := pha_skip (g := grn s c f cy) (c := clr s c) (fun i => grn_nn h0 i) (fun i => clr_nn s c i) p (mny s - p - 1 + 1) x (by omega)
  have e2 : sms (gcs (grn s c f cy) (clr s c)) (p + 1) = sms (gcs (grn s c f cy) (clr s c)) p + (grn s c f cy p + clr s c p) := rfl
  rw [show p + (mny s - p - 1 + 1) = mny s by omega] at e
  rw [e, pha, if_neg (by omega), if_pos (by omega)]
theorem lit_in (h0 : 0 ≤ lef s c cy) {p : Nat} (hp : p < mny s) {x : Int} (h1 : sms (gcs (grn s c f cy) (clr s c)) p ≤ x) (h2 : x < sms (gcs (grn s c f cy) (clr s c)) p + grn s c f cy p) : lit s c f cy x = s p := by
  unfold lit
  rw [pha_in h0 hp h1 h2, if_neg (by omega), show ((p : Int)).toNat = p by omega]
theorem lit_out (h0 : 0 ≤ lef s c cy) {p : Nat} (hp : p < mny s) {x : Int} (h1 : sms (gcs (grn s c f cy) (clr s c)) p + grn s c f cy p ≤ x) (h2 : x < sms (gcs (grn s c f cy) (clr s c)) (p + 1)) : lit s c f cy x = 0 := by
  unfold lit
  rw [pha_out h0 hp h1 h2, if_pos rfl]
theorem gsum_b (h0 : 0 ≤ lef s c cy) : ∀ p, p ≤ mny s → 0 ≤ sms (gcs (grn s c f cy) (clr s c)) p ∧ sms (gcs (grn s c f cy) (clr s c)) p ≤ cy := by
  intro p hp
  have hnn : ∀ i, 0 ≤ gcs (grn s c f cy) (clr s c) i := fun i => by
    have := grn_nn (f := f) h0 i
    have := clr_nn s c i
    unfold gcs; omega
  have h1 := sms_ge (f := gcs (grn s c f cy) (clr s c)) (b := 0) p (fun i _ => hnn i)
  simp at h1
  refine ⟨h1, ?_⟩
  have hmono : ∀ d p, p + d = mny s → sms (gcs (grn s c f cy) (clr s c)) p ≤ sms (gcs (grn s c f cy) (clr s c)) (mny s) := by
    intro d
    induction d with
    | zero => intro p hp; have : p = mny s := by omega
              subst this; exact Int.le_refl _
    | succ d ih =>
      intro p hp
      have h1 := ih (p + 1) (by omega)
      have h2 : sms (gcs (grn s c f cy) (clr s c)) (p + 1) = sms (gcs (grn s c f cy) (clr s c)) p + gcs (grn s c f cy) (clr s c) p := rfl
      have h3 := hnn p
      omega
  have h2 := hmono (mny s - p) p (by omega)
  have h3 : sms (gcs (grn s c f cy) (clr s c)) (mny s) = cy := plan_sum h0
  omega
theorem s_dl38 {K : Int32 → Int32 → Mem → Option (Unit × Mem)} (ho : okJ s c f cy) (h0 : 0 ≤ lef s c cy) {p : Nat} (hp : p < mny s) : ∀ (d t n : Nat) (S : Mem), (t : Int) + d = sms (gcs (grn s c f cy) (clr s c)) (p + 1) → sms (gcs (grn s c f cy) (clr s c)) p ≤ (t : Int) → d < n → SJ S k s c f cy → (∀ u, u < t → S.1 16 k u = i32 (lit s c f cy (u : Int) : Int)) →
    ∃ S' : Mem, frP k S S' ∧ (∀ a i, a ≠ 16 → S'.1 a k i = S.1 a k i) ∧ (∀ u : Nat, (u : Int) < sms (gcs (grn s c f cy) (clr s c)) (p + 1) → S'.1 16 k u = i32 (lit s c f cy (u : Int) : Int)) ∧ f_X3_drawLights_38 fu K k n (i32 (p : Int)) (i32 (sms (gcs (grn s c f cy) (clr s c)) p + grn s c f cy p)) (i32 (sms (gcs (grn s c f cy) (clr s c)) (p + 1))) (i32 (t : Int)) S = K (i32 (sms (gcs (grn s c f cy) (clr s c)) (p + 1))) (i32 ((p : Int) + 1)) S' := by
  intro d
  have hm := mny_le s
  have hcy := ho.2.2.2
  have hb := gsum_b (f := f) h0 (p + 1) (by omega)
  have hb0 := gsum_b (f := f) h0 p (by omega)
  have hgn := grn_nn (f := f) h0 p
  have hcn := clr_nn s c p
  have e2 : sms (gcs (grn s c f cy) (clr s c)) (p + 1) = sms (gcs (grn s c f cy) (clr s c)) p + (grn s c f cy p + clr s c p) := rfl
  induction d with
  | zero =>
    intro t n S ht hat hn h h16
    obtain ⟨n, rfl⟩ : ∃ n', n = n' + 1 := ⟨n - 1, by omega⟩
    refine ⟨S, frP.rf, fun _ _ _ => rfl, fun u hu => h16 u (by omega), ?_⟩
    rw [f_X3_drawLights_38, leT (by omega) (by omega) (by omega), q_1, q_add]
  | succ d ih =>
    intro t n S ht hat hn h h16
    obtain ⟨n, rfl⟩ : ∃ n', n = n' + 1 := ⟨n - 1, by omega⟩
    obtain ⟨S', hf, ho', hl, he⟩ := ih (t + 1) n (wI S 16 k t (i32 (lit s c f cy (t : Int) : Int))) (by omega) (by omega) (by omega) (h.fr (frP.w (by omega))) (fun u hu => by
      rw [w_ok]
      by_cases e1 : u = t
      · subst e1; rw [if_pos ⟨rfl, rfl, rfl⟩]
      · rw [if_neg (by omega)]; exact h16 u (by omega))
    refine ⟨S', (frP.w (by omega)).trans hf, fun a i ha => (ho' a i ha).trans (w_ne (by omega)), hl, ?_⟩
    have e69 : ∀ v : Int, v = (lit s c f cy (t : Int) : Int) → f_X3_drawLights_69 fu (f_X3_drawLights_38 fu K k n) k (i32 (p : Int)) (i32 (sms (gcs (grn s c f cy) (clr s c)) p + grn s c f cy p)) (i32 (sms (gcs (grn s c f cy) (clr s c)) (p + 1))) (i32 (t : Int)) (i32 v) (i32 (t : Int)) S = K (i32 (sms (gcs (grn s c f cy) (clr s c)) (p + 1))) (i32 ((p : Int) + 1)) S' := by
      intro v hv
      unfold f_X3_drawLights_69
      rw [s_write (by omega) (by omega) (by omega), b2s, show ((t : Int)).toNat = t by omega, hv, q_1, q_add]
      exact he
    rw [f_X3_drawLights_38, leF (by omega) (by omega) (by omega)]
    by_cases e : sms (gcs (grn s c f cy) (clr s c)) p + grn s c f cy p ≤ (t : Int)
    · rw [leT e (by omega) (by omega), q_0]
      exact e69 0 (by rw [lit_out h0 hp e (by omega)]; rfl)
    · rw [leF (by omega) (by omega) (by omega), s_read (by omega) (by omega) (by omega), b1s, show ((p : Int)).toNat = p by omega, h.2.2.1 p (by omega)]
      exact e69 _ (by rw [lit_in h0 hp hat (by omega)])
theorem s_dl4 (hfu : 100 ≤ fu) (ho : okJ s c f cy) (h0 : 0 ≤ lef s c cy) : ∀ (d p n : Nat) (S : Mem), p + d = mny s → d < n → SJ S k s c f cy → (∀ q, q < mny s → S.1 14 k q = i32 (grn s c f cy q)) → (∀ q, q < mny s → S.1 15 k q = i32 (clr s c q)) → (∀ u : Nat, (u : Int) < sms (gcs (grn s c f cy) (clr s c)) p → S.1 16 k u = i32 (lit s c f cy (u : Int) : Int)) →
    ∃ S' : Mem, frP k S S' ∧ (∀ a i, a ≠ 16 → S'.1 a k i = S.1 a k i) ∧ (∀ u : Nat, (u : Int) < cy → S'.1 16 k u = i32 (lit s c f cy (u : Int) : Int)) ∧ f_X3_drawLights_4 fu k n (i32 (sms (gcs (grn s c f cy) (clr s c)) p)) (i32 (p : Int)) S = some ((), S') := by
  intro d
  have hm := mny_le s
  have hcy := ho.2.2.2
  induction d with
  | zero =>
    intro p n S hp hn h h14 h15 h16
    obtain ⟨n, rfl⟩ : ∃ n', n = n' + 1 := ⟨n - 1, by omega⟩
    have hpm : p = mny s := by omega
    subst hpm
    have h3 : sms (gcs (grn s c f cy) (clr s c)) (mny s) = cy := plan_sum h0
    refine ⟨S, frP.rf, fun _ _ _ => rfl, fun u hu => h16 u (by omega), ?_⟩
    rw [f_X3_drawLights_4, h.1, leT (by omega) (by omega) (by omega)]
  | succ d ih =>
    intro p n S hp hn h h14 h15 h16
    obtain ⟨n, rfl⟩ : ∃ n', n = n' + 1 := ⟨n - 1, by omega⟩
    have hb := gsum_b (f := f) h0 (p + 1) (by omega)
    have hb0 := gsum_b (f := f) h0 p (by omega)
    have hgn := grn_nn (f := f) h0 p
    have hcn := clr_nn s c p
    have e2 : sms (gcs (grn s c f cy) (clr s c)) (p + 1) = sms (gcs (grn s c f cy) (clr s c)) p + (grn s c f cy p + clr s c p) := rfl
    obtain ⟨t, ht⟩ : ∃ t : Nat, (t : Int) = sms (gcs (grn s c f cy) (clr s c)) p := ⟨(sms (gcs (grn s c f cy) (clr s c)) p).toNat, by omega⟩
    obtain ⟨S1, hf1, ho1, hl1, he1⟩ := s_dl38 (fu := fu) (K := f_X3_drawLights_4 fu k n) ho h0 (p := p) (by omega) (grn s c f cy p + clr s c p).toNat t fu S (by omega) (by omega) (by omega) h (fun u hu => h16 u (by omega))
    obtain ⟨S', hf, ho', hl, he⟩ := ih (p + 1) n S1 (by omega) (by omega) (h.fr hf1) (fun q hq => (ho1 14 q (by omega)).trans (h14 q hq)) (fun q hq => (ho1 15 q (by omega)).trans (h15 q hq)) hl1
    refine ⟨S', hf1.trans hf, fun a i ha => (ho' a i ha).trans (ho1 a i ha), hl, ?_⟩
    rw [f_X3_drawLights_4, h.1, leF (by omega) (by omega) (by omega), s_read (by omega) (by omega) (by omega), b1s, s_read (by omega) (by omega) (by omega), b1s, show ((p : Int)).toNat = p by omega, h14 p (by omega), h15 p (by omega), q_add, q_add, ← ht]
    rw [← ht] at he1
    rw [show ((t : Int) + grn s c f cy p + clr s c p) = sms (gcs (grn s c f cy) (clr s c)) (p + 1) by omega]
    exact he1.trans he
/-- the plan that the class keeps -/
def PLN (S : Mem) (k : Nat) (s : Nat → Nat) (c f : Nat → Int) (cy : Int) : Prop := (∀ p, p < mny s → S.1 15 k p = i32 (clr s c p)) ∧ S.1 3 k 10 = (if lef s c cy < 0 then 0 else 1) ∧ (0 ≤ lef s c cy → (∀ p, p < mny s → S.1 14 k p = i32 (grn s c f cy p)) ∧ ∀ u : Nat, (u : Int) < cy → S.1 16 k u = i32 (lit s c f cy (u : Int) : Int))
theorem s_makePlan {S : Mem} (hfu : 100 ≤ fu) (h : SJ S k s c f cy) (ho : okJ s c f cy) : ∃ S' : Mem, f_X3_makePlan fu k S = some ((), S') ∧ frP k S S' ∧ SJ S' k s c f cy ∧ PLN S' k s c f cy := by
  have hm := mny_le s
  obtain ⟨S1, hf1, h15, he1⟩ := s_mp9 (fu := fu) (k := k) (by omega) ho (mny s) 0 fu S (by omega) (by omega) h (fun p' hp' => absurd hp' (by omega))
  have e0 : f_X3_makePlan fu k S = f_X3_makePlan_108 fu k (i32 (lef s c cy)) (i32 (wts s f)) (if lef s c cy < 0 then 0 else 1) S1 := by
    unfold f_X3_makePlan
    rw [h.2.1]
    have e1 : cy - sms (fun p => clr s c p + lst s p) 0 = cy := Int.sub_zero cy
    rw [e1] at he1
    exact he1
  rw [e0]
  by_cases e : lef s c cy < 0
  · refine ⟨wI S1 3 k 10 0, ?_, hf1.trans (frP.w (by omega)), h.fr (hf1.trans (frP.w (by omega))), fun p hp => (w_ne (by omega)).trans (h15 p hp), ?_, fun h0 => absurd h0 (by omega)⟩
    · rw [if_pos e]
      unfold f_X3_makePlan_108 f_X3_makePlan_128
      rw [gdt (by decide +kernel), w_eq, if_pos rfl]
    · rw [if_pos e, w_eq]
  · have h0 : 0 ≤ lef s c cy := by omega
    have h1 := h.fr (hf1.trans (frP.w (c := 3) (j := 10) (v := 1) (by omega)))
    obtain ⟨S2, hf2, ho2, h14, he2⟩ := s_so5 (fu := fu) (by omega) ho h0 (mny s) 0 fu (wI S1 3 k 10 1) (by omega) (by omega) h1 (fun q hq => absurd hq (by omega))
    obtain ⟨S3, hf3, ho3, hl3, he3⟩ := s_dl4 (fu := fu) hfu ho h0 (mny s) 0 fu S2 (by omega) (by omega) (h1.fr hf2) h14 (fun q hq => (ho2 15 q (by omega)).trans ((w_ne (by omega)).trans (h15 q hq))) (fun u hu => absurd hu (by show ¬ (u : Int) < 0; omega))
    refine ⟨S3, ?_, (hf1.trans (frP.w (by omega))).trans (hf2.trans hf3), (h1.fr hf2).fr hf3, fun p hp => (ho3 15 p (by omega)).trans ((ho2 15 p (by omega)).trans ((w_ne (by omega)).trans (h15 p hp))), ?_, fun _ => ⟨fun p hp => (ho3 14 p (by omega)).trans (h14 p hp), hl3⟩⟩
    · rw [if_neg e]
      unfold f_X3_makePlan_108 f_X3_makePlan_128
      rw [gdt (by decide +kernel), w_eq, if_neg (by decide +kernel)]
      have e5 : f_X3_shareOut fu k (i32 (lef s c cy)) (i32 (wts s f)) (wI S1 3 k 10 1) = some ((), S2) := by
        unfold f_X3_shareOut
        rw [q_0]
        have e6 : lef s c cy - sms (shr s c f cy) 0 = lef s c cy := Int.sub_zero _
        rw [e6] at he2
        exact he2
      rw [e5, b2s]
      have e7 : f_X3_drawLights fu k S2 = some ((), S3) := by
        unfold f_X3_drawLights
        rw [q_0]
        exact he3
      rw [e7, b2s]
    · rw [if_neg e, ho3 3 10 (by omega), ho2 3 10 (by omega), w_eq]
end DL
