/-! Seconds run: the class alone; no vehicle is lost. -/
def lenW (W : Nat → List Int) (k : Nat) : Int := ((W k).length : Int)
theorem sms_up {f : Nat → Int} {j : Nat} {v : Int} : ∀ n, j < n → sms (upI f j v) n = sms f n + (v - f j)
  | 0, h => absurd h (Nat.not_lt_zero _)
  | n + 1, h => by
    show sms (upI f j v) n + upI f j v n = sms f n + f n + (v - f j)
    by_cases e : n = j
    · subst e
      rw [upI_s, sms_congr (f := upI f n v) (g := f) n (fun i hi => upI_n (by omega))]
      omega
    · rw [sms_up n (by omega), upI_n e]
      omega
theorem lenW_up {W : Nat → List Int} {j : Nat} {w : List Int} : lenW (upW W j w) = upI (lenW W) j (w.length : Int) := by
  funext k
  unfold lenW
  by_cases e : k = j
  · subst e; rw [upW_s, upI_s]
  · rw [upW_n e, upI_n e]
theorem sms_head (f : Nat → Int) : ∀ n, sms f (n + 1) = f 0 + sms (fun i => f (i + 1)) n
  | 0 => by show 0 + f 0 = f 0 + 0; omega
  | n + 1 => by
    show sms f (n + 1) + f (n + 1) = f 0 + (sms (fun i => f (i + 1)) n + f (n + 1))
    rw [sms_head f n]; omega
/-- l > 0: those of this second have come -/
def cvD (C : Cf) (K A M T : Int) (Q : Nat → Int) (W : Nat → List Int) (l : Nat) : Prop := M = T + (sms Q (cJ C) + sms (lenW W) (cJ C - 1)) ∧ 3600 * M + A ≤ 1800 * (K + (if 0 < l then 1 else 0))
def FB (C : Cf) (K : Int) (U : Nat → Option Bus) : Prop := okC C ∧ (∀ k, k < cJ C → 0 ≤ lef (cS C k) (cC C k) (cCy C)) ∧ ∀ k, k < cJ C → okU (cS C k) (cC C k) (cF C k) (cCy C) (cO C k) K (U k)
def KR (S : Mem) (C : Cf) (K : Int) (U : Nat → Option Bus) (A M T : Int) (Q R : Nat → Int) (W : Nat → List Int) : Prop := (kcC S C ∧ S.1 6 0 1 = i32 K ∧ S.1 6 0 5 = 1 ∧ ∀ k, k < cJ C → kcU S k (cCy C) (cO C k) (U k)) ∧ S.1 6 0 2 = i32 A ∧ S.1 6 0 3 = i32 M ∧ S.1 6 0 4 = i32 T ∧ (∀ k, k < cJ C → S.1 3 k 11 = i32 (Q k)) ∧ (∀ k, k < cJ C → S.1 3 k 12 = i32 (R k)) ∧ ∀ k, k + 1 < cJ C → S.1 4 k 3 = i32 ((W k).length : Int) ∧ ∀ r, r < 61 → S.1 17 k r = i32 (cnt (W k) r : Int)
theorem KR.tk {S S' : Mem} {C : Cf} {K K' : Int} {U : Nat → Option Bus} (h : kcC S C ∧ S.1 6 0 1 = i32 K ∧ S.1 6 0 5 = 1 ∧ ∀ k, k < cJ C → kcU S k (cCy C) (cO C k) (U k)) (hc : rcG S S') (e1 : S'.1 6 0 1 = i32 K') (e3 : S'.1 6 0 5 = S.1 6 0 5) : kcC S' C ∧ S'.1 6 0 1 = i32 K' ∧ S'.1 6 0 5 = 1 ∧ ∀ k, k < cJ C → kcU S' k (cCy C) (cO C k) (U k) := by
  obtain ⟨h3, h6, h8, h10⟩ := h
  exact ⟨h3.st hc, e1, e3.trans h8, fun k hk => (h10 k hk).st (fun i hi => hc _ _ _ (by omega) (by omega) (by omega) (by omega))⟩
theorem KR.fr {S S' : Mem} {C : Cf} {K : Int} {U : Nat → Option Bus} (h : kcC S C ∧ S.1 6 0 1 = i32 K ∧ S.1 6 0 5 = 1 ∧ ∀ k, k < cJ C → kcU S k (cCy C) (cO C k) (U k)) (hc : ∀ a b i : Nat, a ≠ 17 → ¬ (a = 3 ∧ (i = 11 ∨ i = 12)) → ¬ (a = 4 ∧ i = 3) → ¬ (a = 6 ∧ (i = 2 ∨ i = 3 ∨ i = 4)) → S'.1 a b i = S.1 a b i) : kcC S' C ∧ S'.1 6 0 1 = i32 K ∧ S'.1 6 0 5 = 1 ∧ ∀ k, k < cJ C → kcU S' k (cCy C) (cO C k) (U k) :=
  KR.tk h (fun a b i q1 q2 q3 q4 => hc a b i q1 q3 q4 (by omega)) ((hc _ _ _ (by omega) (by omega) (by omega) (by omega)).trans h.2.1) (hc _ _ _ (by omega) (by omega) (by omega) (by omega))
theorem FB.j {C : Cf} {K : Int} {U : Nat → Option Bus} (h : FB C K U) : 2 ≤ cJ C ∧ cJ C ≤ 5 := ⟨h.1.1, h.1.2.1⟩
section KN
variable {fu : Nat} {C : Cf} {K A M T : Int} {U : Nat → Option Bus} {Q R : Nat → Int} {W : Nat → List Int}
theorem e_come (hB : FB C K U) (hK : K < 7200) (ho : okD C K A M T Q R W 0 0) (hv : cvD C K A M T Q W 0) : ∃ (A' M' : Int) (Q' : Nat → Int), okD C K A' M' T Q' R W 1 0 ∧ cvD C K A' M' T Q' W 1 ∧ ∀ S, KR S C K U A M T Q R W → ∃ S', f_X6_letCome fu 0 S = some ((), S') ∧ KR S' C K U A' M' T Q' R W := by
  have hj := hB.j
  obtain ⟨o1, o2, o3, o4, o5, o6, o7, o8, o9, o10, o11, o12⟩ := ho
  have hf := (hB.1.2.2.2.2.1 0 (by omega)).1.2.2.1 0 (by omega)
  rw [if_neg (by omega)] at o6
  have h9 := o9 0 (by omega)
  refine ⟨if A + cF C 0 0 < 3600 then A + cF C 0 0 else A + cF C 0 0 - 3600, if A + cF C 0 0 < 3600 then M else M + 1, upI Q 0 (if A + cF C 0 0 < 3600 then Q 0 else Q 0 + 1), ?_, ?_, fun S hS => ?_⟩
  · generalize cF C 0 0 = f at *
    refine ⟨o1, o2, ?_, ?_, ?_, ?_, o7, o8, fun k hk => ?_, o10, ?_, fun k hk => ?_⟩
    · split <;> omega
    · split <;> omega
    · split <;> omega
    · have e1 : (if 0 < 1 then (1 : Int) else 0) = 1 := rfl
      rw [e1]; split <;> omega
    · by_cases e : k = 0
      · subst e; rw [upI_s]; split <;> omega
      · rw [upI_n e]; exact o9 k hk
    · rw [upI_s]; split <;> omega
    · obtain ⟨z1, z2, z3⟩ := o12 k hk
      rw [upI_n (by omega)]
      refine ⟨z1, fun e he => ?_, z3⟩
      have := z2 e he
      rw [if_neg (by omega), if_neg (by omega)] at this ⊢
      exact this
  · obtain ⟨v1, v2⟩ := hv
    rw [if_neg (by omega)] at v2
    refine ⟨?_, ?_⟩
    · rw [sms_up (cJ C) (by omega)]
      split <;> omega
    · have e1 : (if 0 < 1 then (1 : Int) else 0) = 1 := rfl
      rw [e1]
      split <;> omega
  · obtain ⟨hX, d1, d2, d3, d4, d5, d6⟩ := hS
    obtain ⟨S', s1, s2, s3, s4, s5⟩ := s_come (fu := fu) d1 d2 (d4 0 (by omega)) ((hX.1.2.2.1 0 (by omega)).1.2.2.2.2 0 (by omega)) ⟨o3, o4⟩ hf
    refine ⟨S', s1, KR.fr hX (fun a b i q1 q2 q3 q4 => s5 a b i (by omega) (by omega)), s2, s3, (s5 _ _ _ (by omega) (by omega)).trans d3, fun k hk => ?_, fun k hk => (s5 _ _ _ (by omega) (by omega)).trans (d5 k hk), fun k hk => ⟨(s5 _ _ _ (by omega) (by omega)).trans (d6 k hk).1, fun r hr => (s5 _ _ _ (by omega) (by omega)).trans ((d6 k hk).2 r hr)⟩⟩
    by_cases e : k = 0
    · subst e; rw [upI_s]; exact s4
    · rw [upI_n e]; exact (s5 _ _ _ (by omega) (by omega)).trans (d4 k hk)
theorem e_ld {k : Nat} (hk : k + 1 < cJ C) (hB : FB C K U) (ho : okD C K A M T Q R W (k + 1) (k + 1)) (hv : cvD C K A M T Q W (k + 1)) : ∃ (Q' : Nat → Int) (W' : Nat → List Int), okD C K A M T Q' R W' (k + 2) (k + 1) ∧ cvD C K A M T Q' W' (k + 2) ∧ ∀ S, KR S C K U A M T Q R W → KR (lnS S k (K % 61).toNat) C K U A M T Q' R W' := by
  have hj := hB.j
  obtain ⟨o1, o2, o3, o4, o5, o6, o7, o8, o9, o10, o11, o12⟩ := ho
  obtain ⟨z1, z2, z3⟩ := o12 k hk
  have hL := hB.1.2.2.2.2.2 k hk
  have hQ := o9 (k + 1) hk
  have z4 : ∀ e, e ∈ W k → K ≤ e ∧ e < K + 61 := fun e he => by
    have := z2 e he
    rw [if_neg (by omega), if_pos (by omega)] at this
    omega
  obtain ⟨e1, e2, e3⟩ := lnd_len K (W k)
  have hp : (K % 61).toNat < 61 := by omega
  have c1 := (lnd_cnt z3 z4 0).1
  have c2 := fun r => (lnd_cnt z3 z4 r).2
  generalize hpp : (K % 61).toNat = p at *
  refine ⟨upI Q (k + 1) (Q (k + 1) + lnN K (W k)), upW W k (lnd K (W k)), ?_, ?_, fun S hS => ?_⟩
  · refine ⟨o1, o2, o3, o4, o5, ?_, o7, o8, fun j hj' => ?_, o10, ?_, fun j hj' => ?_⟩
    · rw [if_pos (by omega)] at o6 ⊢; exact o6
    · by_cases e : j = k + 1
      · subst e; rw [upI_s]; omega
      · rw [upI_n e]; exact o9 j hj'
    · rw [upI_n (by omega)]; exact o11
    · obtain ⟨y1, y2, y3⟩ := o12 j hj'
      by_cases e : j = k
      · subst e
        rw [upW_s, upI_s]
        refine ⟨by omega, fun e he => ?_, lnd_pw z3⟩
        have h1 := lnd_gt z3 (fun e he => (z4 e he).1) he
        have h2 := (z2 e (lnd_sub he)).2
        rw [if_pos (by omega)] at h2
        rw [if_pos (by omega), if_pos (by omega)]
        exact ⟨h1, h2⟩
      · rw [upW_n e, upI_n (by omega)]
        refine ⟨y1, fun e he => ?_, y3⟩
        have h1 := y2 e he
        rcases Nat.lt_or_ge j k with h2 | h2
        · rw [if_pos (by omega), if_pos (by omega)] at h1
          rw [if_pos (by omega), if_pos (by omega)]
          exact h1
        · rw [if_neg (by omega), if_neg (by omega)] at h1
          rw [if_neg (by omega), if_neg (by omega)]
          exact h1
  · obtain ⟨v1, v2⟩ := hv
    refine ⟨?_, by rw [if_pos (by omega)] at v2 ⊢; exact v2⟩
    have el : lenW W k = ((W k).length : Int) := rfl
    rw [lenW_up, sms_up (cJ C) (by omega), sms_up (cJ C - 1) (by omega), el]
    omega
  · obtain ⟨hX, d1, d2, d3, d4, d5, d6⟩ := hS
    have f1 : ∀ a b i, ¬ (a = 17 ∧ b = k ∧ i = p) → ¬ (a = 4 ∧ b = k ∧ i = 3) → ¬ (a = 3 ∧ b = k + 1 ∧ i = 11) → (lnS S k p).1 a b i = S.1 a b i := fun a b i q1 q2 q3 => by
      unfold lnS
      rw [w_ne q3, w_ne q2, w_ne q1]
    refine ⟨KR.fr hX (fun a b i q1 q2 q3 q4 => f1 a b i (by omega) (by omega) (by omega)), (f1 _ _ _ (by omega) (by omega) (by omega)).trans d1, (f1 _ _ _ (by omega) (by omega) (by omega)).trans d2, (f1 _ _ _ (by omega) (by omega) (by omega)).trans d3, fun j hj' => ?_, fun j hj' => (f1 _ _ _ (by omega) (by omega) (by omega)).trans (d5 j hj'), fun j hj' => ?_⟩
    · by_cases e : j = k + 1
      · subst e
        rw [upI_s]
        unfold lnS
        rw [w_eq, d4 (k + 1) hk, (d6 k hk).2 p hp, q_add, c1]
      · rw [upI_n e]
        exact (f1 _ _ _ (by omega) (by omega) (by omega)).trans (d4 j hj')
    · by_cases e : j = k
      · subst e
        rw [upW_s]
        refine ⟨?_, fun r hr => ?_⟩
        · unfold lnS
          rw [w_ne (by omega), w_eq, (d6 j hk).1, (d6 j hk).2 p hp, q_sub, c1, e1]
        · rw [c2 r]
          by_cases e : r = p
          · rw [if_pos e]
            unfold lnS
            rw [w_ne (by omega), w_ne (by omega), e, w_eq]
            rfl
          · rw [if_neg e, f1 _ _ _ (by omega) (by omega) (by omega), (d6 j hk).2 r hr]
      · rw [upW_n e]
        exact ⟨(f1 _ _ _ (by omega) (by omega) (by omega)).trans (d6 j hj').1, fun r hr => (f1 _ _ _ (by omega) (by omega) (by omega)).trans ((d6 j hj').2 r hr)⟩
theorem s_grow {S : Mem} {r : Int} {k : Nat} (hfu : 100 ≤ fu) (hk : k < cJ C) (hK : 0 ≤ K ∧ K < 10000) (hB : FB C K U) (hX : kcC S C ∧ S.1 6 0 1 = i32 K ∧ S.1 6 0 5 = 1 ∧ ∀ k, k < cJ C → kcU S k (cCy C) (cO C k) (U k)) (hr : 0 ≤ r ∧ r ≤ 2) (hR : S.1 3 k 12 = i32 r) : f_X3_growReady fu k (i32 K) S = some ((), wI S 3 k 12 (i32 (rdy (gnw C K U k) r))) := by
  have hoJ := (hB.1.2.2.2.2.1 k hk).1
  have hP := hX.1.2.2.1 k hk
  have hU := hX.2.2.2 k hk
  have hmn := mny_le (cS C k)
  have e1 := s_phaseIn (fu := fu) (t := K) (by omega) hoJ (hB.2.1 k hk) hP.1 hP.2.1 hP.2.2 (hB.1.2.2.2.2.1 k hk).2 ⟨hK.1, by omega⟩ (hB.2.2 k hk) hU
  have hph : phB (cS C k) (cC C k) (cF C k) (cCy C) (cO C k) K (U k) = -1 ∨ ∃ q : Nat, q < mny (cS C k) ∧ phB (cS C k) (cC C k) (cF C k) (cCy C) (cO C k) K (U k) = (q : Int) := pha_ok _
  unfold f_X3_growReady f_X3_growReady_30 f_X3_growReady_31 f_X3_growReady_51 gnw
  rw [e1, b1s]
  rcases hph with e | ⟨q, hq, e⟩
  · rw [e, q_m1, eqT rfl, if_pos rfl]
    have : litB (cS C k) (-1) = 0 := if_pos rfl
    rw [this, Nat.zero_testBit, rdy, if_neg (by simp), q_0]
  · have hb : f_X7_hasBit fu (i32 (cS C k q : Int)) 0 S = some (bo ((cS C k q).testBit 0)) := s_hasBit (m := 0) (hoJ.1 q (by omega)) (by omega)
    have hl : litB (cS C k) (q : Int) = cS C k q := if_neg (by omega)
    rw [e, q_m1, eqF (by omega) (by omega) (by omega) (by omega) (by omega), s_read (by omega) (by omega) (by omega), b1s, show ((q : Int)).toNat = q by omega, hP.1.2.2.1 q (by omega), hb, b1s, hl]
    cases (cS C k q).testBit 0 with
    | false => rw [boF rfl, if_pos rfl, rdy, if_neg (by simp), q_0]
    | true =>
      rw [boT rfl, if_neg (by decide +kernel), rdy, if_pos rfl, hR, q_1, q_add]
      unfold jmin
      rw [q_2]
      by_cases h : 2 ≤ r
      · rw [ltF (by omega) (by omega) (by omega), if_pos h]
      · rw [if_neg h]
        by_cases h1 : r + 1 < 2
        · rw [ltT h1 (by omega) (by omega)]
        · rw [ltF (by omega) (by omega) (by omega), show r + 1 = 2 by omega]
theorem e_grow {k l s : Nat} {v : Int} (hv : 0 ≤ v ∧ v ≤ 2) (ho : okD C K A M T Q R W l s) : okD C K A M T Q (upI R k v) W l s ∧ ∀ S, KR S C K U A M T Q R W → KR (wI S 3 k 12 (i32 v)) C K U A M T Q (upI R k v) W := by
  obtain ⟨o1, o2, o3, o4, o5, o6, o7, o8, o9, o10, o11, o12⟩ := ho
  refine ⟨⟨o1, o2, o3, o4, o5, o6, o7, o8, o9, fun j hj' => ?_, o11, o12⟩, fun S hS => ?_⟩
  · by_cases e : j = k
    · subst e; rw [upI_s]; exact hv
    · rw [upI_n e]; exact o10 j hj'
  · obtain ⟨hX, d1, d2, d3, d4, d5, d6⟩ := hS
    refine ⟨KR.fr hX (fun a b i q1 q2 q3 q4 => w_ne (by omega)), (w_ne (by omega)).trans d1, (w_ne (by omega)).trans d2, (w_ne (by omega)).trans d3, fun j hj' => (w_ne (by omega)).trans (d4 j hj'), fun j hj' => ?_, fun j hj' => ⟨(w_ne (by omega)).trans (d6 j hj').1, fun r hr => (w_ne (by omega)).trans ((d6 j hj').2 r hr)⟩⟩
    by_cases e : j = k
    · subst e; rw [upI_s]; exact w_eq
    · rw [upI_n e]; exact (w_ne (by omega)).trans (d5 j hj')
theorem e_leave {k : Nat} (hk : k < cJ C) (hB : FB C K U) (ho : okD C K A M T Q R W (k + 1) k) (hv : cvD C K A M T Q W (k + 1)) : ∃ (T' : Int) (Q' R' : Nat → Int) (W' : Nat → List Int), okD C K A M T' Q' R' W' (k + 1) (k + 1) ∧ cvD C K A M T' Q' W' (k + 1) ∧ (T' = T ∨ (T' = T + 1 ∧ k + 1 = cJ C)) ∧ ∀ S, KR S C K U A M T Q R W → ∃ S', (∀ B : Mem → Option (Unit × Mem), tlS fu B k S = B S') ∧ KR S' C K U A M T' Q' R' W' := by
  have hj := hB.j
  have ho' := ho
  obtain ⟨o1, o2, o3, o4, o5, o6, o7, o8, o9, o10, o11, o12⟩ := ho'
  have hQk := o9 k hk
  have hRk := o10 k hk
  have hb : k + 1 < cJ C → ((W k).length : Int) + Q (k + 1) ≤ cLr C k ∧ 0 ≤ Q (k + 1) ∧ 0 ≤ cLr C k ∧ cLr C k ≤ 40 ∧ 1 ≤ cLs C k ∧ cLs C k ≤ 60 := fun h => by
    have h1 := (o12 k h).1
    have h2 := hB.1.2.2.2.2.2 k h
    have h3 := o9 (k + 1) h
    omega
  have hs : ∀ S, KR S C K U A M T Q R W → ∀ B, _ := fun S hS B => s_tl (fu := fu) (C := C) (A := B) (S := S) (k := k) (n := ((W k).length : Int)) (q := Q (k + 1)) (r := R k) (w := Q k) hj hS.1.1.1 hk hRk ⟨hQk.1, by omega⟩ (hS.2.2.2.2.2.1 k hk) (hS.2.2.2.2.1 k hk) (fun h => by
    have h1 := hb h
    exact ⟨(hS.2.2.2.2.2.2 k h).1, hS.2.2.2.2.1 (k + 1) h, (hS.1.1.2.2.2 k h).2, by omega, by omega, by omega, by omega, by omega, by omega⟩)
  by_cases e : R k = 2 ∧ 0 < Q k ∧ (k + 1 < cJ C → ((W k).length : Int) + Q (k + 1) < cLr C k)
  · obtain ⟨e1, e2, e3⟩ := e
    have hlv : ∀ S, KR S C K U A M T Q R W → _ := fun S hS => s_leave (fu := fu) (C := C) (S := S) (k := k) (t := K) (w := Q k) (T := T) (n := ((W k).length : Int)) (l := cLs C k) hj hS.1.1.1 hk ⟨o1, by omega⟩ hS.1.2.1 (hS.2.2.2.2.1 k hk) hS.2.2.2.1 (fun h => by
      have h1 := hb h
      exact ⟨(hS.2.2.2.2.2.2 k h).1, (hS.1.1.2.2.2 k h).1, by omega, by omega⟩)
    have hQ' : ∀ j, j < cJ C → 0 ≤ upI Q k (Q k - 1) j ∧ upI Q k (Q k - 1) j ≤ Q j := fun j h => by
      have := o9 j h
      by_cases z : j = k
      · subst z; rw [upI_s]; omega
      · rw [upI_n z]; omega
    have hR' : ∀ j, j < cJ C → 0 ≤ upI R k 0 j ∧ upI R k 0 j ≤ 2 := fun j h => by
      have := o10 j h
      by_cases z : j = k
      · subst z; rw [upI_s]; omega
      · rw [upI_n z]; omega
    by_cases e4 : k + 1 = cJ C
    · refine ⟨T + 1, upI Q k (Q k - 1), upI R k 0, W, ho.sent hk (Or.inr ⟨rfl, e4⟩) hQ' hR' (by omega), ?_, Or.inr ⟨rfl, e4⟩, fun S hS => ?_⟩
      · obtain ⟨v1, v2⟩ := hv
        refine ⟨?_, v2⟩
        rw [sms_up (cJ C) hk]
        omega
      · obtain ⟨S', s1, s2, s3, s4, s5⟩ := hlv S hS
        have hs' : ∀ B : Mem → Option (Unit × Mem), tlS fu B k S = B S' := fun B => by
          rw [hs S hS B, if_pos ⟨e1, e2, e3⟩, s1, b2s]
        obtain ⟨hX, d1, d2, d3, d4, d5, d6⟩ := hS
        obtain ⟨s6, s7⟩ := s4 e4
        refine ⟨S', hs', KR.fr hX (fun a b i q1 q2 q3 q4 => s7 a b i (by omega) (by omega)), (s7 _ _ _ (by omega) (by omega)).trans d1, (s7 _ _ _ (by omega) (by omega)).trans d2, s6, fun j h => ?_, fun j h => ?_, fun j h => ⟨(s7 _ _ _ (by omega) (by omega)).trans (d6 j h).1, fun r hr => (s7 _ _ _ (by omega) (by omega)).trans ((d6 j h).2 r hr)⟩⟩
        · by_cases z : j = k
          · subst z; rw [upI_s]; exact s2
          · rw [upI_n z]; exact (s7 _ _ _ (by omega) (by omega)).trans (d4 j h)
        · by_cases z : j = k
          · subst z; rw [upI_s]; exact s3
          · rw [upI_n z]; exact (s7 _ _ _ (by omega) (by omega)).trans (d5 j h)
    · have e5 : k + 1 < cJ C := by omega
      have hbk := hb e5
      have e3k := e3 e5
      obtain ⟨y1, y2, y3⟩ := o12 k e5
      have hp : ((K + cLs C k) % 61).toNat < 61 := by omega
      have hp2 : (K + cLs C k) % 61 = (((K + cLs C k) % 61).toNat : Int) := by omega
      have ho2 := ho.sent (T' := T) hk (Or.inl rfl) hQ' hR' (by omega)
      obtain ⟨p1, p2, p3, p4, p5, p6, p7, p8, p9, p10, p11, p12⟩ := ho2
      have hlen : ((W k ++ [K + cLs C k]).length : Int) = (W k).length + 1 := by
        rw [List.length_append, List.length_singleton]; omega
      refine ⟨T, upI Q k (Q k - 1), upI R k 0, upW W k (W k ++ [K + cLs C k]), ⟨p1, p2, p3, p4, p5, p6, p7, p8, p9, p10, p11, fun j h => ?_⟩, ?_, Or.inl rfl, fun S hS => ?_⟩
      · by_cases z : j = k
        · subst z
          rw [upW_s, hlen]
          rw [upI_n (by omega)]
          refine ⟨by omega, fun e he => ?_, List.pairwise_append.mpr ⟨y3, List.pairwise_singleton _ _, fun a ha b hb' => ?_⟩⟩
          · rw [if_neg (by omega), if_pos (by omega)]
            rcases List.mem_append.mp he with he | he
            · have := y2 e he
              rw [if_neg (by omega), if_neg (by omega)] at this
              omega
            · rw [List.mem_singleton.mp he]; omega
          · have := y2 a ha
            rw [if_neg (by omega), if_neg (by omega)] at this
            rw [List.mem_singleton.mp hb']
            omega
        · rw [upW_n z]
          exact p12 j h
      · obtain ⟨v1, v2⟩ := hv
        refine ⟨?_, v2⟩
        have el : lenW W k = ((W k).length : Int) := rfl
        rw [lenW_up, sms_up (cJ C) hk, sms_up (cJ C - 1) (by omega), hlen, el]
        omega
      · obtain ⟨S', s1, s2, s3, s4, s5⟩ := hlv S hS
        have hs' : ∀ B : Mem → Option (Unit × Mem), tlS fu B k S = B S' := fun B => by
          rw [hs S hS B, if_pos ⟨e1, e2, e3⟩, s1, b2s]
        obtain ⟨hX, d1, d2, d3, d4, d5, d6⟩ := hS
        obtain ⟨s6, s8, s7⟩ := s5 e5
        refine ⟨S', hs', KR.fr hX (fun a b i q1 q2 q3 q4 => s7 a b i (by omega) (by omega) (by omega)), (s7 _ _ _ (by omega) (by omega) (by omega)).trans d1, (s7 _ _ _ (by omega) (by omega) (by omega)).trans d2, (s7 _ _ _ (by omega) (by omega) (by omega)).trans d3, fun j h => ?_, fun j h => ?_, fun j h => ?_⟩
        · by_cases z : j = k
          · subst z; rw [upI_s]; exact s2
          · rw [upI_n z]; exact (s7 _ _ _ (by omega) (by omega) (by omega)).trans (d4 j h)
        · by_cases z : j = k
          · subst z; rw [upI_s]; exact s3
          · rw [upI_n z]; exact (s7 _ _ _ (by omega) (by omega) (by omega)).trans (d5 j h)
        · by_cases z : j = k
          · subst z
            rw [upW_s]
            refine ⟨?_, fun r hr => ?_⟩
            · rw [hlen]; exact s6
            · rw [cnt_app]
              by_cases er : r = ((K + cLs C j) % 61).toNat
              · rw [if_pos (by omega), er, s8, (d6 j h).2 _ hp, q_1, q_add]
                rfl
              · rw [if_neg (by omega), s7 _ _ _ (by omega) (by omega) (by omega)]
                exact (d6 j h).2 r hr
          · rw [upW_n z]
            exact ⟨(s7 _ _ _ (by omega) (by omega) (by omega)).trans (d6 j h).1, fun r hr => (s7 _ _ _ (by omega) (by omega) (by omega)).trans ((d6 j h).2 r hr)⟩
  · exact ⟨T, Q, R, W, ho.sent hk (Or.inl rfl) (fun j h => by have := o9 j h; omega) o10 (by omega), hv, Or.inl rfl, fun S hS => ⟨S, fun B => (hs S hS B).trans (if_neg e), hS⟩⟩
/-- from when those that come have come -/
theorem e_rest {k : Nat} (hfu : 100 ≤ fu) (hk : k < cJ C) (hB : FB C K U) (ho : okD C K A M T Q R W (k + 1) k) (hv : cvD C K A M T Q W (k + 1)) : ∃ (T' : Int) (Q' R' : Nat → Int) (W' : Nat → List Int), okD C K A M T' Q' R' W' (k + 1) (k + 1) ∧ cvD C K A M T' Q' W' (k + 1) ∧ (T' = T ∨ (T' = T + 1 ∧ k + 1 = cJ C)) ∧ ∀ S, KR S C K U A M T Q R W → ∃ S', (∀ K2 : Int32 → Mem → Option (Unit × Mem), f_X6_passSecond_60 fu K2 (i32 (k : Int)) k S = K2 (i32 ((k + 1 : Nat) : Int)) S') ∧ KR S' C K U A M T' Q' R' W' := by
  have hK : 0 ≤ K ∧ K < 10000 := ⟨ho.1, by have := ho.2.1; omega⟩
  have hRk := ho.2.2.2.2.2.2.2.2.2.1 k hk
  have hrd := rdy_b (gnw C K U k) hRk
  obtain ⟨ho1, hg⟩ := e_grow (U := U) (k := k) hrd ho
  obtain ⟨T', Q', R', W', r1, r2, r3, r4⟩ := e_leave (fu := fu) (U := U) hk hB ho1 hv
  have e1 : i32 (k : Int) + 1 = i32 ((k + 1 : Nat) : Int) := by rw [q_1, q_add]; rfl
  refine ⟨T', Q', R', W', r1, r2, r3, fun S hS => ?_⟩
  have g1 := s_grow (fu := fu) hfu hk hK hB hS.1 hRk (hS.2.2.2.2.2.1 k hk)
  obtain ⟨S', t1, t2⟩ := r4 _ (hg S hS)
  refine ⟨S', fun K2 => ?_, t2⟩
  unfold f_X6_passSecond_60
  rw [hS.1.2.1, g1, b2s]
  refine (t1 (f_X6_passSecond_96 fu K2 (i32 (k : Int)))).trans ?_
  unfold f_X6_passSecond_96
  rw [e1]
theorem e_junc {k : Nat} (hfu : 100 ≤ fu) (hK : K < 7200) (hk : k < cJ C) (hB : FB C K U) (ho : okD C K A M T Q R W k k) (hv : cvD C K A M T Q W k) : ∃ (A' M' T' : Int) (Q' R' : Nat → Int) (W' : Nat → List Int), okD C K A' M' T' Q' R' W' (k + 1) (k + 1) ∧ cvD C K A' M' T' Q' W' (k + 1) ∧ (T' = T ∨ (T' = T + 1 ∧ k + 1 = cJ C)) ∧ ∀ S, KR S C K U A M T Q R W → ∃ S', (∀ n, f_X6_passSecond_2 fu (n + 1) (i32 (k : Int)) S = f_X6_passSecond_2 fu n (i32 ((k + 1 : Nat) : Int)) S') ∧ KR S' C K U A' M' T' Q' R' W' := by
  have hj := hB.j
  have hO : 0 ≤ K := ho.1
  cases k with
  | zero =>
    obtain ⟨A', M', Q1, c3, c4, c5⟩ := e_come (fu := fu) (U := U) hB hK ho hv
    obtain ⟨T', Q', R', W', r1, r2, r3, r4⟩ := e_rest (fu := fu) hfu hk hB c3 c4
    refine ⟨A', M', T', Q', R', W', r1, r2, r3, fun S hS => ?_⟩
    obtain ⟨S1, t1, t2⟩ := c5 S hS
    obtain ⟨S', u1, u2⟩ := r4 S1 t2
    refine ⟨S', fun n => ?_, u2⟩
    rw [f_X6_passSecond_2, hS.1.1.1, leF (by omega) (by omega) (by omega), s_at' hj.2 hS.1.1.1 hk, b1s, if_pos (show i32 ((0 : Nat) : Int) = 0 from rfl), t1, b2s]
    exact u1 _
  | succ k =>
    obtain ⟨Q1, W1, c3, c4, c5⟩ := e_ld (U := U) hk hB ho hv
    obtain ⟨T', Q', R', W', r1, r2, r3, r4⟩ := e_rest (fu := fu) hfu hk hB c3 c4
    have e0 : ¬ i32 ((k + 1 : Nat) : Int) = (0 : Int32) := fun z => by
      have := (q_eq (by omega) (by omega) (by omega) (by omega)).mp (z.trans q_0)
      omega
    have e1 : i32 ((k + 1 : Nat) : Int) - 1 = i32 (k : Int) := by
      rw [q_1, q_sub]
      congr 1
      omega
    refine ⟨A, M, T', Q', R', W', r1, r2, r3, fun S hS => ?_⟩
    obtain ⟨S', u1, u2⟩ := r4 _ (c5 S hS)
    refine ⟨S', fun n => ?_, u2⟩
    rw [f_X6_passSecond_2, hS.1.1.1, leF (by omega) (by omega) (by omega), s_at' hj.2 hS.1.1.1 hk, b1s, if_neg e0, e1, s_linkFrom' hj hS.1.1.1 hk, b1s, hS.1.2.1, s_land ⟨hO, by omega⟩, b2s]
    exact u1 _
end KN
section KO
variable {fu : Nat} {C : Cf} {K : Int} {U : Nat → Option Bus}
theorem e_loop (hfu : 100 ≤ fu) (hK : K < 7200) (hB : FB C K U) : ∀ (d k : Nat) (A M T : Int) (Q R : Nat → Int) (W : Nat → List Int), k + d = cJ C → okD C K A M T Q R W k k → cvD C K A M T Q W k → ∃ (A' M' T' : Int) (Q' R' : Nat → Int) (W' : Nat → List Int), okD C K A' M' T' Q' R' W' (cJ C) (cJ C) ∧ cvD C K A' M' T' Q' W' (cJ C) ∧ (T ≤ T' ∧ T' ≤ T + (if d = 0 then 0 else 1)) ∧ ∀ S, KR S C K U A M T Q R W → ∃ S', (∀ n, f_X6_passSecond_2 fu (n + d) (i32 (k : Int)) S = f_X6_passSecond_2 fu n (i32 (cJ C : Int)) S') ∧ KR S' C K U A' M' T' Q' R' W' := by
  intro d
  induction d with
  | zero =>
    intro k A M T Q R W hk ho hv
    obtain rfl : k = cJ C := by omega
    exact ⟨A, M, T, Q, R, W, ho, hv, ⟨Int.le_refl _, by rw [if_pos rfl]; omega⟩, fun S hS => ⟨S, fun n => rfl, hS⟩⟩
  | succ d ih =>
    intro k A M T Q R W hk ho hv
    obtain ⟨A1, M1, T1, Q1, R1, W1, j1, j2, j3, j4⟩ := e_junc (fu := fu) (U := U) hfu hK (k := k) (by omega) hB ho hv
    obtain ⟨A', M', T', Q', R', W', r1, r2, r3, r4⟩ := ih (k + 1) A1 M1 T1 Q1 R1 W1 (by omega) j1 j2
    refine ⟨A', M', T', Q', R', W', r1, r2, ?_, fun S hS => ?_⟩
    · rw [if_neg (by omega)]
      by_cases e : d = 0
      · rw [if_pos e] at r3
        rcases j3 with z | ⟨z, -⟩ <;> omega
      · rw [if_neg e] at r3
        rcases j3 with z | ⟨z, z2⟩ <;> omega
    · obtain ⟨S1, t1, t2⟩ := j4 S hS
      obtain ⟨S', u1, u2⟩ := r4 S1 t2
      exact ⟨S', fun n => (t1 (n + d)).trans (u1 n), u2⟩
theorem e_second {A M T : Int} {Q R : Nat → Int} {W : Nat → List Int} (hfu : 100 ≤ fu) (hK : K < 7200) (hB : FB C K U) (ho : okD C K A M T Q R W 0 0) (hv : cvD C K A M T Q W 0) : ∃ (A' M' T' : Int) (Q' R' : Nat → Int) (W' : Nat → List Int), FB C (K + 1) U ∧ okD C (K + 1) A' M' T' Q' R' W' 0 0 ∧ cvD C (K + 1) A' M' T' Q' W' 0 ∧ (T ≤ T' ∧ T' ≤ T + 1) ∧ ∀ S, KR S C K U A M T Q R W → ∃ S', f_X6_passSecond fu S = some ((), S') ∧ KR S' C (K + 1) U A' M' T' Q' R' W' := by
  have hj := hB.j
  obtain ⟨A', M', T', Q', R', W', r1, r2, r3, r4⟩ := e_loop (fu := fu) hfu hK hB (cJ C) 0 A M T Q R W (by omega) ho hv
  rw [if_neg (by omega)] at r3
  refine ⟨A', M', T', Q', R', W', ⟨hB.1, hB.2.1, fun k hk b hb => ?_⟩, r1.tick hj.1 hK, ?_, r3, fun S hS => ?_⟩
  · obtain ⟨y1, y2, y3⟩ := hB.2.2 k hk b hb
    exact ⟨y1, by omega, y3⟩
  · obtain ⟨v1, v2⟩ := r2
    rw [if_pos (by omega)] at v2
    exact ⟨v1, by rw [if_neg (by omega)]; omega⟩
  · obtain ⟨S1, u1, u2⟩ := r4 S hS
    obtain ⟨n, hn⟩ : ∃ n, fu = n + 1 + cJ C := ⟨fu - 1 - cJ C, by omega⟩
    have r1' := u1 (n + 1)
    rw [← hn] at r1'
    obtain ⟨hX, d1, d2, d3, d4, d5, d6⟩ := u2
    refine ⟨wI S1 6 0 1 (i32 (K + 1)), ?_, KR.tk hX (fun a b i q1 q2 q3 q4 => w_ne (by omega)) w_eq (w_ne (by omega)), (w_ne (by omega)).trans d1, (w_ne (by omega)).trans d2, (w_ne (by omega)).trans d3, fun j h => (w_ne (by omega)).trans (d4 j h), fun j h => (w_ne (by omega)).trans (d5 j h), fun j h => ⟨(w_ne (by omega)).trans (d6 j h).1, fun r hr => (w_ne (by omega)).trans ((d6 j h).2 r hr)⟩⟩
    unfold f_X6_passSecond
    refine r1'.trans ?_
    rw [f_X6_passSecond_2, hX.1.1, leT (by omega) (by omega) (by omega), hX.2.1, q_1, q_add]
end KO
theorem e_secs {fu : Nat} {C : Cf} {U : Nat → Option Bus} {x : Nat} {v : Int32} (hfu : 700 ≤ fu) (hx : x ≤ 600) : ∀ (d y n : Nat) (K A M T : Int) (Q R : Nat → Int) (W : Nat → List Int), y + d = x → d < n → K + d ≤ 7200 → FB C K U → okD C K A M T Q R W 0 0 → cvD C K A M T Q W 0 → ∃ (A' M' T' : Int) (Q' R' : Nat → Int) (W' : Nat → List Int), FB C (K + d) U ∧ okD C (K + d) A' M' T' Q' R' W' 0 0 ∧ cvD C (K + d) A' M' T' Q' W' 0 ∧ (T ≤ T' ∧ T' ≤ T + d) ∧ ∀ S, KR S C K U A M T Q R W → ∃ S', f_X6_pass_12 fu (i32 (x : Int)) n v (i32 (y : Int)) S = some (i32 T' - v, S') ∧ KR S' C (K + d) U A' M' T' Q' R' W' := by
  intro d
  induction d with
  | zero =>
    intro y n K A M T Q R W hy hn hK hB ho hv
    obtain ⟨n, rfl⟩ : ∃ n', n = n' + 1 := ⟨n - 1, by omega⟩
    have e0 : K + ((0 : Nat) : Int) = K := Int.add_zero K
    rw [e0]
    refine ⟨A, M, T, Q, R, W, hB, ho, hv, ⟨Int.le_refl _, by omega⟩, fun S hS => ⟨S, ?_, hS⟩⟩
    rw [f_X6_pass_12, leT (by omega) (by omega) (by omega), hS.2.2.2.1]
  | succ d ih =>
    intro y n K A M T Q R W hy hn hK hB ho hv
    obtain ⟨n, rfl⟩ : ∃ n', n = n' + 1 := ⟨n - 1, by omega⟩
    obtain ⟨A1, M1, T1, Q1, R1, W1, j0, j1, j2, j3, j4⟩ := e_second (fu := fu) (by omega) (by omega) hB ho hv
    obtain ⟨A', M', T', Q', R', W', r0, r1, r2, r3, r4⟩ := ih (y + 1) n (K + 1) A1 M1 T1 Q1 R1 W1 (by omega) (by omega) (by omega) j0 j1 j2
    have e1 : i32 (y : Int) + 1 = i32 ((y + 1 : Nat) : Int) := by rw [q_1, q_add]; rfl
    have e2 : K + ((d + 1 : Nat) : Int) = K + 1 + (d : Int) := by omega
    rw [e2]
    refine ⟨A', M', T', Q', R', W', r0, r1, r2, ⟨by omega, by omega⟩, fun S hS => ?_⟩
    obtain ⟨S1, t1, t2⟩ := j4 S hS
    obtain ⟨S', u1, u2⟩ := r4 S1 t2
    refine ⟨S', ?_, u2⟩
    rw [f_X6_pass_12, leF (by omega) (by omega) (by omega), t1, b2s, e1]
    exact u1
