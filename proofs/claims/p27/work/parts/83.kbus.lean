/-! A bus: what its call changes; the phase now stays. -/
theorem gBu_0 {g : Nat → Int} {b : Bus} (h : b.2.2.2 = 0) : gBu g (some b) = g := by
  funext p
  rw [gBu_some, h]
  split <;> split <;> omega
theorem pha_same {g g' c : Nat → Int} {m r : Nat} {x : Int} (hg : ∀ i, 0 ≤ g i) (hg' : ∀ i, 0 ≤ g' i) (hc : ∀ i, 0 ≤ c i) (hr : r < m) (hx : 0 ≤ x) (h : pha g c m 0 x = (r : Int)) (hlow : ∀ i, i < r → g' i = g i) (hat : x < sms (gcs g c) r + g' r) : pha g' c m 0 x = (r : Int) := by
  have h1 := pha_inv (g := g) (c := c) m 0 x r (by show (0 : Int) ≤ x; exact hx) (by rw [show sms (gcs g c) 0 = 0 from rfl, Int.sub_zero]; exact h)
  have e : sms (gcs g' c) r = sms (gcs g c) r := sms_congr r (fun i hi => by unfold gcs; rw [hlow i hi])
  obtain ⟨d, rfl⟩ : ∃ d, m = r + (d + 1) := ⟨m - r - 1, by omega⟩
  rw [pha_skip hg' hc r (d + 1) x (by rw [e]; exact h1.1), pha, e, if_pos (by omega)]
section KB
variable {s : Nat → Nat} {c f : Nat → Int} {cy o t : Int}
theorem bus_same (ho : okJ s c f cy) (h0 : 0 ≤ lef s c cy) {q : Nat} (hq : q < mny s) {n0 : Int} {x : Int} (hx : 0 ≤ x) {ph : Int} (hph : pha (grn s c f cy) (clr s c) (mny s) 0 x = ph) : pha (gBu (grn s c f cy) (some (n0, q, (busG s c f cy x ph q).1, (busG s c f cy x ph q).2))) (clr s c) (mny s) 0 x = ph := by
  have hphr : ph = -1 ∨ ∃ r : Nat, r < mny s ∧ ph = (r : Int) := by rw [← hph]; exact pha_ok x
  have hxin : ∀ r : Nat, ph = (r : Int) → sms (gcs (grn s c f cy) (clr s c)) r ≤ x ∧ x < sms (gcs (grn s c f cy) (clr s c)) r + grn s c f cy r := fun r hr => pha_inv (mny s) 0 x r (by show (0 : Int) ≤ x; exact hx) (by
    rw [show sms (gcs (grn s c f cy) (clr s c)) 0 = 0 from rfl, Int.sub_zero, hph]; exact hr)
  have hG := busG_b (q := q) (ph := ph) (x := x) ho h0 hq hphr (fun r hr => (hxin r hr).2)
  by_cases hn : (busG s c f cy x ph q).2 = 0
  · rw [gBu_0 (by exact hn)]; exact hph
  · have hgnn : ∀ i, 0 ≤ grn s c f cy i := fun i => grn_nn h0 i
    have hcnn : ∀ i, 0 ≤ clr s c i := fun i => clr_nn s c i
    have hg' : ∀ i, 0 ≤ gBu (grn s c f cy) (some (n0, q, (busG s c f cy x ph q).1, (busG s c f cy x ph q).2)) i := by
      intro i
      rw [gBu_some]
      have h1 := hgnn i
      have h2 := hG.2.2.2 hn
      have h3 := lst_b s i
      show 0 ≤ grn s c f cy i + (if (i : Int) = (q : Int) then (busG s c f cy x ph q).2 else 0) - (if (i : Int) = ((busG s c f cy x ph q).1 : Int) then (busG s c f cy x ph q).2 else 0)
      by_cases e1 : (i : Int) = ((busG s c f cy x ph q).1 : Int)
      · have e2 : i = (busG s c f cy x ph q).1 := by omega
        rw [if_pos e1]
        have h4 := h2.2
        rw [← e2] at h4
        split <;> omega
      · rw [if_neg e1]
        split <;> omega
    by_cases e1 : ph = (q : Int) ∧ q + 1 < mny s
    · have eG : busG s c f cy x ph q = (q + 1, imn 5 (grn s c f cy (q + 1) - lst s (q + 1))) := by unfold busG; rw [if_pos e1]
      have hxq := hxin q e1.1
      rw [e1.1]
      rw [e1.1] at hph hg' eG hn hG
      refine pha_same hgnn hg' hcnn hq hx hph (fun i hi => ?_) ?_
      · rw [gBu_some, eG]
        show grn s c f cy i + (if (i : Int) = (q : Int) then _ else 0) - (if (i : Int) = ((q + 1 : Nat) : Int) then _ else 0) = _
        rw [if_neg (by omega), if_neg (by omega)]; omega
      · rw [gBu_some]
        show x < sms (gcs (grn s c f cy) (clr s c)) q + (grn s c f cy q + (if (q : Int) = (q : Int) then (busG s c f cy x (q : Int) q).2 else 0) - (if (q : Int) = ((busG s c f cy x (q : Int) q).1 : Int) then (busG s c f cy x (q : Int) q).2 else 0))
        have h5 : (busG s c f cy x (q : Int) q).1 = q + 1 := by rw [eG]
        rw [if_pos rfl, h5, if_neg (by omega)]
        have := hG.2.1
        omega
    · by_cases e2 : ph ≠ -1 ∧ ph < (q : Int)
      · rcases hphr with z | ⟨r, hr, z⟩
        · exact absurd z e2.1
        · subst z
          have hxr := hxin r rfl
          have eG : busG s c f cy x (r : Int) q = (r, imn 5 (imn (sms (gcs (grn s c f cy) (clr s c)) r + grn s c f cy r - 1 - x) (grn s c f cy r - lst s r))) := by
            unfold busG; rw [if_neg e1, if_pos e2, show ((r : Int)).toNat = r by omega]
          have hrq : r < q := by omega
          have hb1 := imn_b 5 (imn (sms (gcs (grn s c f cy) (clr s c)) r + grn s c f cy r - 1 - x) (grn s c f cy r - lst s r))
          have hb2 := imn_b (sms (gcs (grn s c f cy) (clr s c)) r + grn s c f cy r - 1 - x) (grn s c f cy r - lst s r)
          refine pha_same hgnn hg' hcnn hr hx hph (fun i hi => ?_) ?_
          · rw [gBu_some, eG]
            show grn s c f cy i + (if (i : Int) = (q : Int) then _ else 0) - (if (i : Int) = (r : Int) then _ else 0) = _
            rw [if_neg (by omega), if_neg (by omega)]; omega
          · rw [gBu_some, eG]
            show x < sms (gcs (grn s c f cy) (clr s c)) r + (grn s c f cy r + (if (r : Int) = (q : Int) then _ else 0) - (if (r : Int) = (r : Int) then (imn 5 (imn (sms (gcs (grn s c f cy) (clr s c)) r + grn s c f cy r - 1 - x) (grn s c f cy r - lst s r))) else 0))
            rw [if_neg (by omega), if_pos rfl]
            omega
      · exact absurd (show (busG s c f cy x ph q).2 = 0 by unfold busG; rw [if_neg e1, if_neg e2]) hn
end KB
section KC
variable {fu : Nat} {S : Mem} {C : Cf} {V : Rn}
/-- the phase now by the plan -/
def phN (C : Cf) (V : Rn) (k : Nat) : Int := phB (cS C k) (cC C k) (cF C k) (cCy C) (cO C k) (vK V) none
def busN (C : Cf) (V : Rn) (k q : Nat) : Int := (busG (cS C k) (cC C k) (cF C k) (cCy C) ((vK V - cO C k) % cCy C) (phN C V k) q).2
def busV (C : Cf) (V : Rn) (k q : Nat) : Rn := (true, vK V, vA V, vM V, vT V, vQ V, vR V, vW V, va_up (vU V) k (some ((vK V - cO C k) / cCy C, q, (busG (cS C k) (cC C k) (cF C k) (cCy C) ((vK V - cO C k) % cCy C) (phN C V k) q).1, busN C V k q)))
/-- a bus may call at k, for the phase q -/
def BUS (C : Cf) (V : Rn) (k m q : Nat) : Prop := k < cJ C ∧ m < 4 ∧ plA C (cJ C) 0 = true ∧ lowP (cS C k) m (mny (cS C k)) 0 = (q : Int) ∧ q < mny (cS C k) ∧ (act (cCy C) (cO C k) (vK V) (vU V k)).isSome = false
theorem BUS.in (h : OK C V) {k m q : Nat} (hB : BUS C V k m q) : 0 ≤ lf C k ∧ (∀ r : Nat, phN C V k = (r : Int) → sms (gcs (grn (cS C k) (cC C k) (cF C k) (cCy C)) (clr (cS C k) (cC C k))) r ≤ (vK V - cO C k) % cCy C ∧ (vK V - cO C k) % cCy C < sms (gcs (grn (cS C k) (cC C k) (cF C k) (cCy C)) (clr (cS C k) (cC C k))) r + grn (cS C k) (cC C k) (cF C k) (cCy C) r) ∧ (phN C V k = -1 ∨ ∃ r : Nat, r < mny (cS C k) ∧ phN C V k = (r : Int)) := by
  obtain ⟨hk, hm, e5, z, hq, e6⟩ := hB
  have hcy := h.cy
  have hxm := Int.emod_nonneg (vK V - cO C k) (show cCy C ≠ 0 by omega)
  refine ⟨plA_all (cJ C) 0 e5 k (by omega) (by omega), fun r hr => pha_inv (mny (cS C k)) 0 _ r (by show (0 : Int) ≤ _; exact hxm) (by
    rw [show sms (gcs (grn (cS C k) (cC C k) (cF C k) (cCy C)) (clr (cS C k) (cC C k))) 0 = 0 from rfl, Int.sub_zero]
    exact hr), pha_ok _⟩
theorem BUS.n (h : OK C V) {k m q : Nat} (hB : BUS C V k m q) : 0 ≤ busN C V k q ∧ busN C V k q ≤ 5 := by
  obtain ⟨h0, hin, hr⟩ := hB.in h
  have hG := busG_b (q := q) (h.1.2.2.2.2.1 k hB.1).1 h0 hB.2.2.2.2.1 hr (fun r hr => (hin r hr).2)
  exact ⟨hG.2.1, hG.2.2.1⟩
theorem OK_bus (h : OK C V) {k m q : Nat} (hB : BUS C V k m q) : OK C (busV C V k q) := by
  obtain ⟨h0, hin, hr⟩ := hB.in h
  obtain ⟨hk, hm, e5, z, hq, e6⟩ := hB
  obtain ⟨hoJ, hoo⟩ := h.1.2.2.2.2.1 k hk
  have hcy := h.cy
  have hK : 0 ≤ vK V ∧ vK V < 10000 := ⟨h.2.1.1, by have := h.2.1.2.1; omega⟩
  have hd := cyc_b hcy hoo (t := vK V) ⟨hK.1, by omega⟩
  have hdm := Int.mul_ediv_add_emod (vK V - cO C k) (cCy C)
  have hxm := Int.emod_nonneg (vK V - cO C k) (show cCy C ≠ 0 by omega)
  have hG := busG_b (q := q) hoJ h0 hq hr (fun r hr => (hin r hr).2)
  refine ⟨h.1, ?_, h.2.2⟩
  obtain ⟨o1, o2, o3, o4, o5, o6, o7, o8, o9, o10, o11, o12, o13⟩ := h.2.1
  refine ⟨o1, o2, o3, o4, o5, o6, o7, o8, o9, o10, o11, (fun hb => by cases hb), fun k' hk' b' hb' => ?_⟩
  have hb' : va_up (vU V) k (some ((vK V - cO C k) / cCy C, q, (busG (cS C k) (cC C k) (cF C k) (cCy C) ((vK V - cO C k) % cCy C) (phN C V k) q).1, busN C V k q)) k' = some b' := hb'
  by_cases ek : k' = k
  · subst ek
    rw [va_up_self] at hb'
    cases hb'
    refine ⟨h0, ?_, hd.1, ?_, hq, hG.1, hG.2.1, hG.2.2.1, hG.2.2.2⟩
    · show (vK V - cO C k') / cCy C * cCy C + cO C k' ≤ vK V
      rw [Int.mul_comm]
      omega
    · show (vK V - cO C k') / cCy C ≤ 7200
      have : (vK V - cO C k') / cCy C < 7201 := by
        apply Int.ediv_lt_of_lt_mul (by omega)
        have := Int.mul_le_mul_of_nonneg_left (show (1 : Int) ≤ cCy C by omega) (show (0 : Int) ≤ 7201 by omega)
        omega
      omega
  · rw [va_up_ne _ _ ek] at hb'
    exact o13 k' hk' b' hb'
theorem k_callBus (hfu : 100 ≤ fu) (h : OK C V) {k m q : Nat} (hB : BUS C V k m q) (hS : KS S C V) : ∃ S', fx_X7_callBus fu (i32 (k : Int)) (i32 (m : Int)) S = some (.inr (i32 (busN C V k q)), S') ∧ KS S' C (busV C V k q) := by
  obtain ⟨h0, hin, hphr⟩ := hB.in h
  obtain ⟨hk, hm, e5, z, hq, e6⟩ := hB
  have hj := h.j
  obtain ⟨hoJ, hoo⟩ := h.1.2.2.2.2.1 k hk
  have hcy := h.cy
  have hK : 0 ≤ vK V ∧ vK V < 10000 := ⟨h.2.1.1, by have := h.2.1.2.1; omega⟩
  have hu := okV_U h.2.1 hk
  obtain ⟨h2, h5⟩ := hS
  obtain ⟨hJ, hP, h9⟩ := h2.2.2.1 k hk
  have hmn := mny_le (cS C k)
  have hlw : f_X3_lowestPhaseWith fu k (i32 (m : Int)) S = some (i32 (lowP (cS C k) m (mny (cS C k)) 0)) := s_low2 hJ hoJ hm (mny (cS C k)) 0 fu (by omega) (by omega)
  have hT := SP_eq (T := wI S 6 0 5 1) hJ hP (fun a i hq => w_ne (by omega))
  have hph : f_X3_phaseIn fu k (i32 (vK V)) (wI S 6 0 5 1) = some (i32 (phN C V k)) := by
    unfold phN
    rw [← phB_none e6]
    refine s_phaseIn (by omega) hoJ h0 hT.1 hT.2 (by rw [w_ne (by omega)]; exact h9) hoo ⟨hK.1, by omega⟩ hu ?_
    have hU := (h5.2.2.2.2.2.1 k hk).2.2
    generalize vU V k = u at hU
    cases u with
    | none => exact (w_ne (by omega)).trans hU
    | some b =>
      obtain ⟨j1, j2, j3, a, j4, j5⟩ := hU
      exact ⟨(w_ne (by omega)).trans j1, (w_ne (by omega)).trans j2, (w_ne (by omega)).trans j3, a, (w_ne (by omega)).trans j4, j5⟩
  obtain ⟨TC, c1, c2, c3, c4, c5, c6, c7⟩ := s_take (fu := fu) (m := m) hfu hoJ h0 hT.1 hT.2 (by rw [w_ne (by omega)]; exact h9) hoo hK hm z hq hph hphr
  have hdm := Int.mul_ediv_add_emod (vK V - cO C k) (cCy C)
  have fe : ∀ a b i, ¬ (a = 3 ∧ b = k ∧ 13 ≤ i ∧ i ≤ 16) → ¬ (a = 6 ∧ b = 0 ∧ i = 5) → TC.1 a b i = S.1 a b i := fun a b i q1 q2 => (c6 a b i q1).trans (w_ne q2)
  refine ⟨TC, ?_, ?_, ?_⟩
  · unfold fx_X7_callBus
    rw [s_at hj.2 h2.1 (by omega), if_pos (by omega), bxr, show ((k : Int)).toNat = k by omega, s_checkMovement (by omega), if_pos (by omega), bxr, s_checkPlans (by omega) h.1 h2, if_pos e5, bxr, hlw, b1s, z, q_m1, eqF (by omega) (by omega) (by omega) (by omega) (by omega), h5.1, s_hasBus hcy hoo ⟨hK.1, by omega⟩ hu (h5.2.2.2.2.2.1 k hk).2.2, b1s, boF e6, w_ne (by omega), h5.1, c1, b2s]
    rfl
  · refine ⟨(fe _ _ _ (by omega) (by omega)).trans h2.1, (fe _ _ _ (by omega) (by omega)).trans h2.2.1, fun k' hk' => ?_, fun k' hk' => ⟨(fe _ _ _ (by omega) (by omega)).trans (h2.2.2.2 k' hk').1, (fe _ _ _ (by omega) (by omega)).trans (h2.2.2.2 k' hk').2⟩⟩
    obtain ⟨j1, j2, j3⟩ := h2.2.2.1 k' hk'
    obtain ⟨w1, w2⟩ := SP_eq (T := TC) j1 j2 (fun a i hq => fe _ _ _ (by omega) (by omega))
    exact ⟨w1, w2, (fe _ _ _ (by omega) (by omega)).trans j3⟩
  · obtain ⟨v1, v2, v3, v4, v5, v6, v7⟩ := h5
    refine ⟨(fe _ _ _ (by omega) (by omega)).trans v1, (fe _ _ _ (by omega) (by omega)).trans v2, (fe _ _ _ (by omega) (by omega)).trans v3, (fe _ _ _ (by omega) (by omega)).trans v4, ?_, fun k' hk' => ⟨(fe _ _ _ (by omega) (by omega)).trans (v6 k' hk').1, (fe _ _ _ (by omega) (by omega)).trans (v6 k' hk').2.1, ?_⟩, fun k' hk' => ⟨(fe _ _ _ (by omega) (by omega)).trans (v7 k' hk').1, fun r hr => (fe _ _ _ (by omega) (by omega)).trans ((v7 k' hk').2 r hr)⟩⟩
    · rw [c6 _ _ _ (by omega), w_eq]; rfl
    · show kcU TC k' (cCy C) (cO C k') (va_up (vU V) k (some ((vK V - cO C k) / cCy C, q, (busG (cS C k) (cC C k) (cF C k) (cCy C) ((vK V - cO C k) % cCy C) (phN C V k) q).1, busN C V k q)) k')
      by_cases ek : k' = k
      · subst ek
        rw [va_up_self]
        refine ⟨?_, c3, c4, c5⟩
        rw [c2]
        show i32 (vK V - (vK V - cO C k') % cCy C + cCy C) = i32 ((vK V - cO C k') / cCy C * cCy C + cO C k' + cCy C)
        rw [Int.mul_comm ((vK V - cO C k') / cCy C)]
        congr 1
        omega
      · rw [va_up_ne _ _ ek]
        have hU := (v6 k' hk').2.2
        generalize vU V k' = u at hU ⊢
        cases u with
        | none => exact (fe _ _ _ (by omega) (by omega)).trans hU
        | some b =>
          obtain ⟨j1, j2, j3, a, j4, j5⟩ := hU
          exact ⟨(fe _ _ _ (by omega) (by omega)).trans j1, (fe _ _ _ (by omega) (by omega)).trans j2, (fe _ _ _ (by omega) (by omega)).trans j3, a, (fe _ _ _ (by omega) (by omega)).trans j4, j5⟩
/-- no bus may call: refused, and nothing changed -/
theorem k_noBus (hfu : 100 ≤ fu) (h : OK C V) (x y : Int32) : (∃ k m q : Nat, x = i32 (k : Int) ∧ y = i32 (m : Int) ∧ BUS C V k m q) ∨ ∃ e, (e = 1 ∨ e = 2 ∨ e = 3) ∧ ∀ S, KS S C V → fx_X7_callBus fu x y S = some (.inl e, S) := by
  have hx := q_rng x
  have hy := q_rng y
  rw [← q_self x, ← q_self y]
  generalize x.toInt = a at *
  generalize y.toInt = b at *
  have hj := h.j
  by_cases e : 0 ≤ a ∧ a < cJ C
  · obtain ⟨k, rfl⟩ : ∃ k : Nat, a = (k : Int) := ⟨a.toNat, by omega⟩
    have hk : k < cJ C := by omega
    by_cases e1 : 0 ≤ b ∧ b < 4
    · obtain ⟨m, rfl⟩ : ∃ m : Nat, b = (m : Int) := ⟨b.toNat, by omega⟩
      have hm : m < 4 := by omega
      obtain ⟨hoJ, hoo⟩ := h.1.2.2.2.2.1 k hk
      have hcy := h.cy
      have hK : 0 ≤ vK V ∧ vK V < 10000 := ⟨h.2.1.1, by have := h.2.1.2.1; omega⟩
      have hmn := mny_le (cS C k)
      have hlow := lowP_b (cS C k) m (mny (cS C k)) 0
      have hu := okV_U h.2.1 hk
      have hlw : ∀ S, KS S C V → f_X3_lowestPhaseWith fu k (i32 (m : Int)) S = some (i32 (lowP (cS C k) m (mny (cS C k)) 0)) := fun S hS => s_low2 (hS.1.2.2.1 k hk).1 hoJ hm (mny (cS C k)) 0 fu (by omega) (by omega)
      by_cases e5 : plA C (cJ C) 0 = true
      · rcases hlow with z | ⟨q, -, hq, z⟩
        · refine Or.inr ⟨2, by omega, fun S hS => ?_⟩
          unfold fx_X7_callBus
          rw [s_at hj.2 hS.1.1 hx, if_pos e, bxr, show ((k : Int)).toNat = k by omega, s_checkMovement hy, if_pos e1, bxr, s_checkPlans (by omega) h.1 hS.1, if_pos e5, bxr, hlw S hS, b1s, z, q_m1, eqT rfl]
        · by_cases e6 : (act (cCy C) (cO C k) (vK V) (vU V k)).isSome = false
          · exact Or.inl ⟨k, m, q, rfl, rfl, hk, hm, e5, z, by omega, e6⟩
          · have e6' : (act (cCy C) (cO C k) (vK V) (vU V k)).isSome = true := by
              cases hz : (act (cCy C) (cO C k) (vK V) (vU V k)).isSome with
              | true => rfl
              | false => exact absurd hz e6
            refine Or.inr ⟨2, by omega, fun S hS => ?_⟩
            unfold fx_X7_callBus
            rw [s_at hj.2 hS.1.1 hx, if_pos e, bxr, show ((k : Int)).toNat = k by omega, s_checkMovement hy, if_pos e1, bxr, s_checkPlans (by omega) h.1 hS.1, if_pos e5, bxr, hlw S hS, b1s, z, q_m1, eqF (by omega) (by omega) (by omega) (by omega) (by omega), hS.2.1, s_hasBus hcy hoo ⟨hK.1, by omega⟩ hu (hS.2.2.2.2.2.2.1 k hk).2.2, b1s, boT e6']
      · refine Or.inr ⟨2, by omega, fun S hS => ?_⟩
        unfold fx_X7_callBus
        rw [s_at hj.2 hS.1.1 hx, if_pos e, bxr, show ((k : Int)).toNat = k by omega, s_checkMovement hy, if_pos e1, bxr, s_checkPlans (by omega) h.1 hS.1, if_neg e5, bxl]
    · refine Or.inr ⟨3, by omega, fun S hS => ?_⟩
      unfold fx_X7_callBus
      rw [s_at hj.2 hS.1.1 hx, if_pos e, bxr, s_checkMovement hy, if_neg e1, bxl]
  · refine Or.inr ⟨3, by omega, fun S hS => ?_⟩
    unfold fx_X7_callBus
    rw [s_at hj.2 hS.1.1 hx, if_neg e, bxl]
theorem d_callBus (hfu : 100 ≤ fu) (h : OK C V) (x y : Int32) : DT (fx_X7_callBus fu x y) C V (PT C V) := by
  rcases k_noBus hfu h x y with ⟨k, m, q, rfl, rfl, hB⟩ | ⟨e, he, hF⟩
  · have hn := hB.n h
    exact ⟨.inr (i32 (busN C V k q)), C, busV C V k q, OK_bus h hB, Or.inr ⟨_, rfl, by omega, by omega⟩, fun S hS => k_callBus hfu h hB hS⟩
  · exact dt_throw e he h hF
/-- a bus that has called doesn't change the phase now; no second one may call there; no offset may be set -/
theorem bus_act (h : OK C V) {k m q : Nat} (hB : BUS C V k m q) : act (cCy C) (cO C k) (vK (busV C V k q)) (vU (busV C V k q) k) = some ((vK V - cO C k) / cCy C, q, (busG (cS C k) (cC C k) (cF C k) (cCy C) ((vK V - cO C k) % cCy C) (phN C V k) q).1, busN C V k q) := by
  show act (cCy C) (cO C k) (vK V) (va_up (vU V) k (some ((vK V - cO C k) / cCy C, q, (busG (cS C k) (cC C k) (cF C k) (cCy C) ((vK V - cO C k) % cCy C) (phN C V k) q).1, busN C V k q)) k) = _
  rw [va_up_self]
  exact if_pos rfl
theorem bus_phase (h : OK C V) {k m q : Nat} (hB : BUS C V k m q) : phB (cS C k) (cC C k) (cF C k) (cCy C) (cO C k) (vK (busV C V k q)) (vU (busV C V k q) k) = phB (cS C k) (cC C k) (cF C k) (cCy C) (cO C k) (vK V) (vU V k) := by
  have hcy := h.cy
  have h0 := (hB.in h).1
  have e1 := phB_none (s := cS C k) (c := cC C k) (f := cF C k) (cy := cCy C) (o := cO C k) (t := vK V) hB.2.2.2.2.2
  rw [e1]
  have e2 : phB (cS C k) (cC C k) (cF C k) (cCy C) (cO C k) (vK (busV C V k q)) (vU (busV C V k q) k) = pha (gBu (grn (cS C k) (cC C k) (cF C k) (cCy C)) (act (cCy C) (cO C k) (vK (busV C V k q)) (vU (busV C V k q) k))) (clr (cS C k) (cC C k)) (mny (cS C k)) 0 ((vK V - cO C k) % cCy C) := rfl
  rw [e2, bus_act h hB]
  exact bus_same (h.1.2.2.2.2.1 k hB.1).1 h0 hB.2.2.2.2.1 (Int.emod_nonneg _ (by omega)) rfl
theorem bus_again (hfu : 100 ≤ fu) (h : OK C V) {k m q : Nat} (hB : BUS C V k m q) : ∃ e, (e = 1 ∨ e = 2 ∨ e = 3) ∧ ∀ S, KS S C (busV C V k q) → fx_X7_callBus fu (i32 (k : Int)) (i32 (m : Int)) S = some (.inl e, S) := by
  rcases k_noBus hfu (OK_bus h hB) (i32 (k : Int)) (i32 (m : Int)) with ⟨k', m', q', e1, e2, hB'⟩ | h'
  · have hj := h.j
    have hk := hB.1
    have hk' := hB'.1
    have ek : k' = k := by
      have := (q_eq (by omega) (by omega) (by omega) (by omega)).mp e1
      omega
    subst ek
    have h6 := hB'.2.2.2.2.2
    rw [bus_act h hB] at h6
    cases h6
  · exact h'
theorem busy_offset (h : OK C V) (hb : vB V = true) (x y : Int32) : ∃ e, (e = 1 ∨ e = 2 ∨ e = 3) ∧ ∀ S, KS S C V → fx_X7_setOffset fu x y S = some (.inl e, S) := by
  have hx := q_rng x
  have hy := q_rng y
  rw [← q_self x, ← q_self y]
  generalize x.toInt = a at *
  generalize y.toInt = b at *
  have hj := h.j
  have hcy := h.cy
  have eout : ∀ S, KS S C V → f_X7_isOutside fu (i32 b) 0 (S.1 1 0 2 - 1) S = some (bo (!decide (0 ≤ b ∧ b ≤ cCy C - 1))) := fun S hS => by
    rw [hS.1.2.1, q_1, q_sub]
    exact s_isOutside (b := 0) (c := cCy C - 1) (by omega) (by omega) (by omega) (by omega) (by omega) (by omega)
  by_cases e : 0 ≤ a ∧ a < cJ C
  · by_cases e1 : 0 ≤ b ∧ b ≤ cCy C - 1
    · refine ⟨2, by omega, fun S hS => ?_⟩
      unfold fx_X7_setOffset
      rw [s_at hj.2 hS.1.1 hx, if_pos e, bxr, eout S hS, b1s, decide_eq_true e1, Bool.not_true, boF rfl, s_settingUp hS.2, hb, if_neg (by simp), bxl]
    · refine ⟨1, by omega, fun S hS => ?_⟩
      unfold fx_X7_setOffset
      rw [s_at hj.2 hS.1.1 hx, if_pos e, bxr, eout S hS, b1s, decide_eq_false e1, Bool.not_false, boT rfl]
  · refine ⟨3, by omega, fun S hS => ?_⟩
    unfold fx_X7_setOffset
    rw [s_at hj.2 hS.1.1 hx, if_neg e, bxl]
end KC
