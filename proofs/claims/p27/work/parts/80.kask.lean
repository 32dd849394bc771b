/-! THE CLASS's STATE: settings C, what runs V; what it answers by them. -/
/-- the vehicles of the link k, on their way and in the queue at its end -/
def hld (V : Rn) (k : Nat) : Int := ((vW V k).length : Int) + vQ V (k + 1)
/-- no vehicle is lost; no more come than one in two seconds -/
def IV (J : Nat) (V : Rn) : Prop := vM V = vT V + vQ V 0 + sms (hld V) (J - 1) ∧ 3600 * vM V + vA V ≤ 1800 * vK V
/-- no phase 0 is without a movement -/
def NZ (C : Cf) : Prop := ∀ k, k < cJ C → cS C k 0 ≠ 0
def OK (C : Cf) (V : Rn) : Prop := okC C ∧ okV C V ∧ IV (cJ C) V ∧ NZ C
def KS (S : Mem) (C : Cf) (V : Rn) : Prop := kcC S C ∧ kcV S C V
def lf (C : Cf) (k : Nat) : Int := lef (cS C k) (cC C k) (cCy C)
theorem KS.same {S S' : Mem} {C : Cf} {V : Rn} (h : KS S C V) (hf : S'.1 = S.1) : KS S' C V := by
  obtain ⟨h2, h5⟩ := h
  refine ⟨?_, ?_⟩
  · unfold kcC SJ PLN at *; rw [hf]; exact h2
  · unfold kcV at *
    rw [hf]
    obtain ⟨g1, g2, g3, g4, g5, g6, g7⟩ := h5
    refine ⟨g1, g2, g3, g4, g5, fun k hk => ⟨(g6 k hk).1, (g6 k hk).2.1, ?_⟩, g7⟩
    have := (g6 k hk).2.2
    unfold kcU at *
    rw [hf]
    exact this
theorem okV_U {C : Cf} {V : Rn} (h : okV C V) {k : Nat} (hk : k < cJ C) : okU (cS C k) (cC C k) (cF C k) (cCy C) (cO C k) (vK V) (vU V k) := h.2.2.2.2.2.2.2.2.2.2.2.2 k hk
section AK
variable {fu : Nat} {S : Mem} {C : Cf} {V : Rn}
theorem OK.j (h : OK C V) : 2 ≤ cJ C ∧ cJ C ≤ 5 := ⟨h.1.1, h.1.2.1⟩
theorem OK.cy (h : OK C V) : 30 ≤ cCy C ∧ cCy C ≤ 90 := ⟨h.1.2.2.1, h.1.2.2.2.1⟩
theorem a_junctions (hS : KS S C V) : f_X7_junctions fu S = some (i32 (cJ C : Int)) := by
  unfold f_X7_junctions; rw [hS.1.1]
theorem a_clock (hS : KS S C V) : f_X7_clock fu S = some (i32 (vK V)) := by
  unfold f_X7_clock; rw [hS.2.1]
theorem a_come (hS : KS S C V) : f_X7_come fu S = some (i32 (vM V)) := by
  unfold f_X7_come; rw [hS.2.2.2.1]
theorem a_through (hS : KS S C V) : f_X7_through fu S = some (i32 (vT V)) := by
  unfold f_X7_through; rw [hS.2.2.2.2.1]
theorem a_hasPlan (h : OK C V) (hS : KS S C V) {k : Nat} (hk : k < cJ C) : f_X7_hasPlan fu (i32 (k : Int)) S = some (bo (decide (0 ≤ lf C k))) := by
  unfold f_X7_hasPlan
  rw [s_at' h.j.2 hS.1.1 hk, b1s, k_plan hS.1 hk, nb_bo]; rfl
theorem a_offset (h : OK C V) (hS : KS S C V) {k : Nat} (hk : k < cJ C) : f_X7_offset fu (i32 (k : Int)) S = some (i32 (cO C k)) := by
  unfold f_X7_offset
  rw [s_at' h.j.2 hS.1.1 hk, b1s, (hS.1.2.2.1 k hk).2.2]
theorem a_queue (h : OK C V) (hS : KS S C V) {k : Nat} (hk : k < cJ C) : f_X7_queue fu (i32 (k : Int)) S = some (i32 (vQ V k)) := by
  unfold f_X7_queue
  rw [s_at' h.j.2 hS.1.1 hk, b1s, (hS.2.2.2.2.2.2.1 k hk).1]
theorem a_held (h : OK C V) (hS : KS S C V) {k : Nat} (hk : k + 1 < cJ C) : f_X7_held fu (i32 (k : Int)) S = some (i32 (hld V k)) := by
  have hj := h.j
  unfold f_X7_held f_X1_vehiclesOnLinkFrom
  rw [s_linkFrom' hj hS.1.1 hk, b1s, q_1, q_add, show (k : Int) + 1 = ((k + 1 : Nat) : Int) by omega, s_at' hj.2 hS.1.1 hk, b1s, b1s, (hS.2.2.2.2.2.2.2 k hk).1, (hS.2.2.2.2.2.2.1 (k + 1) hk).1, q_add]
  rfl
theorem a_clearing (h : OK C V) (hS : KS S C V) {k p : Nat} (hk : k < cJ C) (hp : p < mny (cS C k)) : f_X7_clearing fu (i32 (k : Int)) (i32 (p : Int)) S = some (i32 (clr (cS C k) (cC C k) p)) := by
  have hm := mny_le (cS C k)
  obtain ⟨hJ, hP, -⟩ := hS.1.2.2.1 k hk
  unfold f_X7_clearing f_X7_checkPhase f_X7_checkPhase_12
  rw [s_at' h.j.2 hS.1.1 hk, b1s, q_0, ltF (by omega) (by omega) (by omega), hJ.1, ltT (by omega) (by omega) (by omega), b1s, s_read (by omega) (by omega) (by omega), b1s, show ((p : Int)).toNat = p by omega, hP.1 p hp]
theorem a_isGreen (h : OK C V) (hS : KS S C V) {k m : Nat} {t : Int} (hk : k < cJ C) (h0 : 0 ≤ lf C k) (hm : m < 4) (ht : 0 ≤ t ∧ t ≤ 100000) : f_X7_isGreen fu (i32 (k : Int)) (i32 (m : Int)) (i32 t) S = some (bo ((lit (cS C k) (cC C k) (cF C k) (cCy C) ((t - cO C k) % cCy C)).testBit m)) := by
  obtain ⟨hoJ, hoo⟩ := h.1.2.2.2.2.1 k hk
  obtain ⟨hJ, hP, h9⟩ := hS.1.2.2.1 k hk
  have eout : f_X7_isOutside fu (i32 t) 0 100000 S = some (bo (!decide (0 ≤ t ∧ t ≤ 100000))) := s_isOutside (b := 0) (c := 100000) (by omega) (by omega) (by omega) (by omega) (by omega) (by omega)
  have e4 : (4 : Int32) = i32 4 := rfl
  have hpl := k_plan hS.1 hk
  rw [decide_eq_true (show 0 ≤ lef (cS C k) (cC C k) (cCy C) from h0)] at hpl
  unfold f_X7_isGreen f_X7_checkMovement f_X7_checkPlan
  rw [s_at' h.j.2 hS.1.1 hk, b1s, eout, decide_eq_true ht, Bool.not_true, b1s, boF rfl, hpl, boT rfl, e4, q_0, ltF (by omega) (by omega) (by omega), ltT (by omega) (by omega) (by omega), b1s, b1s, s_isLit hoJ h0 hJ hP h9 hoo (by omega) hm, b1s, nb_bo]
theorem a_breaches (hfu : 100 ≤ fu) (h : OK C V) (hS : KS S C V) {k : Nat} (hk : k < cJ C) (h0 : 0 ≤ lf C k) : f_X7_breaches fu (i32 (k : Int)) S = some (i32 (cntF (brF (cS C k) (cC C k) (cF C k) (cCy C) (cO C k)) (cCy C).toNat 0)) := by
  have hcy := h.cy
  obtain ⟨hoJ, hoo⟩ := h.1.2.2.2.2.1 k hk
  obtain ⟨hJ, hP, h9⟩ := hS.1.2.2.1 k hk
  have hpl := k_plan hS.1 hk
  rw [decide_eq_true (show 0 ≤ lef (cS C k) (cC C k) (cCy C) from h0)] at hpl
  have hs := s_cb4 (fu := fu) (by omega) hoJ h0 hJ hP h9 hoo (cCy C).toNat 0 fu 0 (by omega) (by omega) (by omega) (by omega)
  have hs' : f_X3_countBreaches_4 fu k S fu 0 0 = _ := hs
  unfold f_X7_breaches f_X7_checkPlan f_X3_countBreaches
  rw [s_at' h.j.2 hS.1.1 hk, b1s, hpl, boT rfl, b1s, hs', b1s, Int.zero_add]
/-- the law's own: a green, the phase now, a band; what is thrown told by a number below 0 -/
theorem g_green (h : OK C V) (hS : KS S C V) {k p : Nat} (hk : k < cJ C) (hp : p < 100) : f_L_green fu (i32 (k : Int)) (i32 (p : Int)) S = some (i32 (if p < mny (cS C k) then (if 0 ≤ lf C k then grn (cS C k) (cC C k) (cF C k) (cCy C) p else -2) else -1)) := by
  have hm := mny_le (cS C k)
  have hj := h.j
  obtain ⟨hJ, hP, -⟩ := hS.1.2.2.1 k hk
  unfold f_L_green fx_X7_green
  rw [s_at hj.2 hS.1.1 (by omega), if_pos (by omega), bxr, show ((k : Int)).toNat = k by omega, s_checkPhase hS.1 hk (by omega)]
  by_cases e : p < mny (cS C k)
  · rw [if_pos (by omega), bxr, s_checkPlan hS.1 hk, if_pos e]
    by_cases e2 : 0 ≤ lf C k
    · rw [if_pos (show 0 ≤ lef (cS C k) (cC C k) (cCy C) from e2), bxr, s_read (by omega) (by omega) (by omega), b1s, b1s, if_pos e2, show ((p : Int)).toNat = p by omega, (hP.2.2 e2).1 p e]
      rfl
    · rw [if_neg (show ¬ 0 ≤ lef (cS C k) (cC C k) (cCy C) from e2), bxl, b1s, if_neg e2]
      show (if 2 = 3 then some (-1) else if 2 = 2 then some (-2) else none) = some (i32 (-2))
      rw [if_neg (by decide), if_pos rfl]; rfl
  · rw [if_neg (by omega), bxl, b1s, if_neg e]
    rfl
theorem g_phaseNow (hfu : 100 ≤ fu) (h : OK C V) (hS : KS S C V) {k : Nat} (hk : k < cJ C) : f_L_phaseNow fu (i32 (k : Int)) S = some (i32 (if 0 ≤ lf C k then phB (cS C k) (cC C k) (cF C k) (cCy C) (cO C k) (vK V) (vU V k) else -2)) := by
  have hj := h.j
  obtain ⟨hoJ, hoo⟩ := h.1.2.2.2.2.1 k hk
  obtain ⟨hJ, hP, h9⟩ := hS.1.2.2.1 k hk
  have hK : 0 ≤ vK V ∧ vK V < 1000000 := ⟨h.2.1.1, by have := h.2.1.2.1; omega⟩
  unfold f_L_phaseNow fx_X7_phaseNow
  rw [s_at hj.2 hS.1.1 (by omega), if_pos (by omega), bxr, show ((k : Int)).toNat = k by omega, s_checkPlan hS.1 hk]
  by_cases e2 : 0 ≤ lf C k
  · rw [if_pos (show 0 ≤ lef (cS C k) (cC C k) (cCy C) from e2), bxr, hS.2.1, s_phaseIn (by omega) hoJ e2 hJ hP h9 hoo hK (okV_U h.2.1 hk) (hS.2.2.2.2.2.2.1 k hk).2.2, b1s, b1s, if_pos e2]
    rfl
  · rw [if_neg (show ¬ 0 ≤ lef (cS C k) (cC C k) (cCy C) from e2), bxl, b1s, if_neg e2]
    show (if 2 = 2 then some (-2) else none) = some (i32 (-2))
    rw [if_pos rfl]; rfl
end AK
