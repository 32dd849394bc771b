/-! Bands; setting up: what a call does to the settings. -/
def bnd (C : Cf) (w : Bool) : Int := if plA C (cJ C) 0 = true then (if w = true then cntF (aF C (cO C) (-1)) (cCy C).toNat 0 else cntF (aB C (cO C) (-1)) (cCy C).toNat 0) else -2
section BN
variable {fu : Nat} {S : Mem} {C : Cf} {V : Rn}
theorem g_band (hfu : 200 ≤ fu) (h : OK C V) (hS : KS S C V) {x : Int32} (w : Bool) (hx : x = bo w) : ∃ S' : Mem, f_L_band fu x S = some (i32 (bnd C w), S') ∧ S'.1 = S.1 := by
  have hcy := h.cy
  have hn : cCy C = ((cCy C).toNat : Int) := by omega
  unfold f_L_band fx_X7_band bnd
  rw [s_checkPlans (by omega) h.1 hS.1]
  by_cases e5 : plA C (cJ C) 0 = true
  · have h0 : ∀ k, k < cJ C → 0 ≤ lef (cS C k) (cC C k) (cCy C) := fun k hk => plA_all (cJ C) 0 e5 k (by omega) (by omega)
    obtain ⟨S2, a1, a2, a3⟩ := s_common (fu := fu) (w := -1) hfu h.1 hS.1 h0 hn (by omega)
    have hc := s_cntF2 (fu := fu) (by omega) a3
    rw [if_pos e5, bxr, if_pos e5]
    unfold f_X0_width f_X0_width_26
    rw [q_m1, a1, b2s, hx]
    cases w with
    | true =>
      rw [boT rfl, hc.1, b1s, b2s, b2s, if_pos rfl]
      exact ⟨_, rfl, a2⟩
    | false =>
      rw [boF rfl, hc.2, b1s, b2s, b2s, if_neg (by simp)]
      exact ⟨_, rfl, a2⟩
  · rw [if_neg e5, bxl, b2s, if_neg e5]
    exact ⟨S, by show (if 2 = 2 then some (-2, S) else none) = some (i32 (-2), S); rw [if_pos rfl]; rfl, rfl⟩
end BN
/-- a call: its answer, the settings and what runs then, by those before alone -/
def DT {α : Type} (F : Mem → Option (α × Mem)) (C : Cf) (V : Rn) (P : α → Cf → Rn → Prop) : Prop := ∃ (z : α) (C' : Cf) (V' : Rn), OK C' V' ∧ P z C' V' ∧ ∀ S, KS S C V → ∃ S', F S = some (z, S') ∧ KS S' C' V'
/-- it throws and changes nothing, or it answers -/
def PT (C : Cf) (V : Rn) (z : Nat ⊕ Int32) (C' : Cf) (V' : Rn) : Prop := (∃ e, z = .inl e ∧ (e = 1 ∨ e = 2 ∨ e = 3) ∧ C' = C ∧ V' = V) ∨ ∃ v : Int, z = .inr (i32 v) ∧ -1 ≤ v ∧ v < 2147483648
theorem dt_throw {F : Mem → Option ((Nat ⊕ Int32) × Mem)} {C : Cf} {V : Rn} (e : Nat) (he : e = 1 ∨ e = 2 ∨ e = 3) (h : OK C V) (hF : ∀ S, KS S C V → F S = some (.inl e, S)) : DT F C V (PT C V) := ⟨.inl e, C, V, h, Or.inl ⟨e, rfl, he, rfl, rfl⟩, fun S hS => ⟨S, hF S hS, hS⟩⟩
section ST
variable {fu : Nat} {S : Mem} {C : Cf} {V : Rn}
theorem OK.st {C' : Cf} (h : OK C V) (hb : vB V = false) (hj : cJ C' = cJ C) (hC : okC C') (hz : NZ C') : OK C' V := ⟨hC, okV_idle h.2.1 hb hj hC, by rw [hj]; exact h.2.2.1, hz⟩
theorem NZ_upd {k : Nat} {s : Nat → Nat} {c f : Nat → Int} (h : NZ C) (hs : s 0 ≠ 0) : NZ (updC C k s c f) := fun k' hk' => by
  show va_up (cS C) k s k' 0 ≠ 0
  by_cases e : k' = k
  · subst e; rw [va_up_self]; exact hs
  · rw [va_up_ne _ _ e]; exact h k' hk'
theorem KS_upd {S' : Mem} {k : Nat} {s : Nat → Nat} {c f : Nat → Int} (h : OK C V) (hS : KS S C V) (hb : vB V = false) (hk : k < cJ C) (hf : frJ k S S') (hJ : SJ S' k s c f (cCy C)) (hP : PLN S' k s c f (cCy C)) : KS S' (updC C k s c f) V := by
  obtain ⟨h2, h5⟩ := hS
  refine ⟨⟨(hf.1 _ _ _ (by omega)).trans h2.1, (hf.1 _ _ _ (by omega)).trans h2.2.1, fun k' hk' => ?_, fun k' hk' => ⟨(hf.1 _ _ _ (by omega)).trans (h2.2.2.2 k' hk').1, (hf.1 _ _ _ (by omega)).trans (h2.2.2.2 k' hk').2⟩⟩, kcV_idle (h5.fj hf) h.2.1 hb rfl⟩
  show SJ S' k' (va_up (cS C) k s k') (va_up (cC C) k c k') (va_up (cF C) k f k') (cCy C) ∧ PLN S' k' (va_up (cS C) k s k') (va_up (cC C) k c k') (va_up (cF C) k f k') (cCy C) ∧ S'.1 3 k' 9 = i32 (cO C k')
  obtain ⟨g1, g2, g3⟩ := h2.2.2.1 k' hk'
  by_cases e : k' = k
  · subst e; rw [va_up_self, va_up_self, va_up_self]; exact ⟨hJ, hP, (hf.1 _ _ _ (by omega)).trans g3⟩
  · rw [va_up_ne _ _ e, va_up_ne _ _ e, va_up_ne _ _ e]; exact ⟨g1.fj hf e, g2.fj hf e, (hf.1 _ _ _ (by omega)).trans g3⟩
theorem okC_upd {k : Nat} {s : Nat → Nat} {c f : Nat → Int} (h1 : okC C) (ho : okJ s c f (cCy C)) : okC (updC C k s c f) := by
  refine ⟨h1.1, h1.2.1, h1.2.2.1, h1.2.2.2.1, fun k' hk' => ⟨?_, (h1.2.2.2.2.1 k' hk').2⟩, h1.2.2.2.2.2⟩
  show okJ (va_up (cS C) k s k') (va_up (cC C) k c k') (va_up (cF C) k f k') (cCy C)
  by_cases e : k' = k
  · subst e; rw [va_up_self, va_up_self, va_up_self]; exact ho
  · rw [va_up_ne _ _ e, va_up_ne _ _ e, va_up_ne _ _ e]; exact (h1.2.2.2.2.1 k' hk').1
theorem d_setOffset (h : OK C V) (x y : Int32) : DT (fx_X7_setOffset fu x y) C V (PT C V) := by
  have hx := q_rng x
  have hy := q_rng y
  rw [← q_self x, ← q_self y]
  generalize x.toInt = a at *
  generalize y.toInt = b at *
  have hj := h.j
  have hcy := h.cy
  have h1 := h.1
  have eout : ∀ S, KS S C V → f_X7_isOutside fu (i32 b) 0 (S.1 1 0 2 - 1) S = some (bo (!decide (0 ≤ b ∧ b ≤ cCy C - 1))) := fun S hS => by
    rw [hS.1.2.1, q_1, q_sub]
    exact s_isOutside (b := 0) (c := cCy C - 1) (by omega) (by omega) (by omega) (by omega) (by omega) (by omega)
  by_cases e : 0 ≤ a ∧ a < cJ C
  · obtain ⟨k, rfl⟩ : ∃ k : Nat, a = (k : Int) := ⟨a.toNat, by omega⟩
    have hk : k < cJ C := by omega
    by_cases e1 : 0 ≤ b ∧ b ≤ cCy C - 1
    · cases hb : vB V with
      | true =>
        refine dt_throw 2 (by omega) h (fun S hS => ?_)
        unfold fx_X7_setOffset
        rw [s_at hj.2 hS.1.1 hx, if_pos e, bxr, eout S hS, b1s, decide_eq_true e1, Bool.not_true, boF rfl, s_settingUp hS.2, hb, if_neg (by simp), bxl]
      | false =>
        have hC' : okC (cJ C, cCy C, cS C, cC C, cF C, va_up (cO C) k b, cLs C, cLr C) := ⟨h1.1, h1.2.1, h1.2.2.1, h1.2.2.2.1, fun k' hk' => ⟨(h1.2.2.2.2.1 k' hk').1, by
          show 0 ≤ va_up (cO C) k b k' ∧ va_up (cO C) k b k' < cCy C
          unfold va_up
          split
          · omega
          · exact (h1.2.2.2.2.1 k' hk').2⟩, h1.2.2.2.2.2⟩
        refine ⟨.inr (i32 (cO C k)), (cJ C, cCy C, cS C, cC C, cF C, va_up (cO C) k b, cLs C, cLr C), V, h.st hb rfl hC' h.2.2.2, Or.inr ⟨_, rfl, by have := (h1.2.2.2.2.1 k hk).2; omega, by have := (h1.2.2.2.2.1 k hk).2; omega⟩, fun S hS => ⟨wI S 3 k 9 (i32 b), ?_, ?_⟩⟩
        · unfold fx_X7_setOffset
          rw [s_at hj.2 hS.1.1 hx, if_pos e, bxr, eout S hS, b1s, decide_eq_true e1, Bool.not_true, boF rfl, s_settingUp hS.2, hb, if_pos rfl, bxr, show ((k : Int)).toNat = k by omega, (hS.1.2.2.1 k hk).2.2]
        · obtain ⟨h2, h5⟩ := hS
          refine ⟨?_, ?_⟩
          · refine ⟨(w_ne (by omega)).trans h2.1, (w_ne (by omega)).trans h2.2.1, fun k' hk' => ?_, fun k' hk' => ⟨(w_ne (by omega)).trans (h2.2.2.2 k' hk').1, (w_ne (by omega)).trans (h2.2.2.2 k' hk').2⟩⟩
            obtain ⟨g1, g2, g3⟩ := h2.2.2.1 k' hk'
            refine ⟨⟨(w_ne (by omega)).trans g1.1, (w_ne (by omega)).trans g1.2.1, fun p hp => (w_ne (by omega)).trans (g1.2.2.1 p hp), fun q hq => (w_ne (by omega)).trans (g1.2.2.2.1 q hq), fun m hm => (w_ne (by omega)).trans (g1.2.2.2.2 m hm)⟩, ⟨fun p hp => (w_ne (by omega)).trans (g2.1 p hp), (w_ne (by omega)).trans g2.2.1, fun h0 => ⟨fun p hp => (w_ne (by omega)).trans ((g2.2.2 h0).1 p hp), fun u hu => (w_ne (by omega)).trans ((g2.2.2 h0).2 u hu)⟩⟩, ?_⟩
            show (wI S 3 k 9 (i32 b)).1 3 k' 9 = i32 (va_up (cO C) k b k')
            rw [w_ok]
            unfold va_up
            by_cases ek : k' = k
            · rw [if_pos ⟨rfl, ek, rfl⟩, if_pos ek]
            · rw [if_neg (by omega), if_neg ek]; exact g3
          · refine kcV_idle (C := C) ?_ h.2.1 hb rfl
            obtain ⟨g1, g2, g3, g4, g5, g6, g7⟩ := h5
            refine ⟨(w_ne (by omega)).trans g1, (w_ne (by omega)).trans g2, (w_ne (by omega)).trans g3, (w_ne (by omega)).trans g4, (w_ne (by omega)).trans g5, fun k' hk' => ⟨(w_ne (by omega)).trans (g6 k' hk').1, (w_ne (by omega)).trans (g6 k' hk').2.1, ?_⟩, fun k' hk' => ⟨(w_ne (by omega)).trans (g7 k' hk').1, fun r hr => (w_ne (by omega)).trans ((g7 k' hk').2 r hr)⟩⟩
            have := (g6 k' hk').2.2
            rw [((h.2.1.2.2.2.2.2.2.2.2.2.2.2.1 hb).2 k' hk').2.2.2] at this ⊢
            exact (w_ne (by omega)).trans this
    · refine dt_throw 1 (by omega) h (fun S hS => ?_)
      unfold fx_X7_setOffset
      rw [s_at hj.2 hS.1.1 hx, if_pos e, bxr, eout S hS, b1s, decide_eq_false e1, Bool.not_false, boT rfl]
  · refine dt_throw 3 (by omega) h (fun S hS => ?_)
    unfold fx_X7_setOffset
    rw [s_at hj.2 hS.1.1 hx, if_neg e, bxl]
theorem d_setFlow (hfu : 100 ≤ fu) (h : OK C V) (x y w : Int32) : DT (fx_X7_setFlow fu x y w) C V (PT C V) := by
  have hx := q_rng x
  have hy := q_rng y
  have hw := q_rng w
  rw [← q_self x, ← q_self y, ← q_self w]
  generalize x.toInt = a at *
  generalize y.toInt = b at *
  generalize w.toInt = v at *
  have hj := h.j
  have h1 := h.1
  have eout : ∀ S, f_X7_isOutside fu (i32 v) 0 1800 S = some (bo (!decide (0 ≤ v ∧ v ≤ 1800))) := fun S => s_isOutside (b := 0) (c := 1800) (by omega) (by omega) (by omega) (by omega) (by omega) (by omega)
  by_cases e : 0 ≤ a ∧ a < cJ C
  · obtain ⟨k, rfl⟩ : ∃ k : Nat, a = (k : Int) := ⟨a.toNat, by omega⟩
    have hk : k < cJ C := by omega
    obtain ⟨hoJ, hoo⟩ := h1.2.2.2.2.1 k hk
    by_cases e1 : 0 ≤ b ∧ b < 4
    · obtain ⟨m, rfl⟩ : ∃ m : Nat, b = (m : Int) := ⟨b.toNat, by omega⟩
      have hm : m < 4 := by omega
      by_cases e3 : 0 ≤ v ∧ v ≤ 1800
      · cases hb : vB V with
        | true =>
          refine dt_throw 2 (by omega) h (fun S hS => ?_)
          unfold fx_X7_setFlow
          rw [s_at hj.2 hS.1.1 hx, if_pos e, bxr, s_checkMovement hy, if_pos e1, bxr, eout, b1s, decide_eq_true e3, Bool.not_true, boF rfl, s_settingUp hS.2, hb, if_neg (by simp), bxl]
        | false =>
          have ho' : okJ (cS C k) (cC C k) (va_up (cF C k) m v) (cCy C) := ⟨hoJ.1, hoJ.2.1, fun m' hm' => by
            unfold va_up; split
            · omega
            · exact hoJ.2.2.1 m' hm', hoJ.2.2.2⟩
          refine ⟨.inr (i32 (cF C k m)), updC C k (cS C k) (cC C k) (va_up (cF C k) m v), V, h.st hb rfl (okC_upd h1 ho') (NZ_upd h.2.2.2 (h.2.2.2 k hk)), Or.inr ⟨_, rfl, by have := hoJ.2.2.1 m hm; omega, by have := hoJ.2.2.1 m hm; omega⟩, fun S hS => ?_⟩
          have hJ := (hS.1.2.2.1 k hk).1
          have hJ' : SJ (wI S 13 k m (i32 v)) k (cS C k) (cC C k) (va_up (cF C k) m v) (cCy C) := ⟨(w_ne (by omega)).trans hJ.1, (w_ne (by omega)).trans hJ.2.1, fun p hp => (w_ne (by omega)).trans (hJ.2.2.1 p hp), fun q hq => (w_ne (by omega)).trans (hJ.2.2.2.1 q hq), fun m' hm' => by
            rw [w_ok]
            unfold va_up
            by_cases em : m' = m
            · rw [if_pos ⟨rfl, rfl, em⟩, if_pos em]
            · rw [if_neg (by omega), if_neg em]; exact hJ.2.2.2.2 m' hm'⟩
          obtain ⟨S', hmp, hfp, hsj, hpl⟩ := s_makePlan (fu := fu) hfu hJ' ho'
          refine ⟨S', ?_, KS_upd h hS hb hk ((frJ.w (by omega)).trans (frJ.pl hfp)) hsj hpl⟩
          unfold fx_X7_setFlow f_X3_flowOf f_X3_changeFlow
          rw [s_at hj.2 hS.1.1 hx, if_pos e, bxr, s_checkMovement hy, if_pos e1, bxr, eout, b1s, decide_eq_true e3, Bool.not_true, boF rfl, s_settingUp hS.2, hb, if_pos rfl, bxr, show ((k : Int)).toNat = k by omega, s_read (by omega) (by omega) (by omega), b1s, b1s, s_write (by omega) (by omega) (by omega), b2s, show ((m : Int)).toNat = m by omega, hmp, b2s, b2s, hJ.2.2.2.2 m hm]
      · refine dt_throw 1 (by omega) h (fun S hS => ?_)
        unfold fx_X7_setFlow
        rw [s_at hj.2 hS.1.1 hx, if_pos e, bxr, s_checkMovement hy, if_pos e1, bxr, eout, b1s, decide_eq_false e3, Bool.not_false, boT rfl]
    · refine dt_throw 3 (by omega) h (fun S hS => ?_)
      unfold fx_X7_setFlow
      rw [s_at hj.2 hS.1.1 hx, if_pos e, bxr, s_checkMovement hy, if_neg e1, bxl]
  · refine dt_throw 3 (by omega) h (fun S hS => ?_)
    unfold fx_X7_setFlow
    rw [s_at hj.2 hS.1.1 hx, if_neg e, bxl]
theorem d_setConflict (hfu : 100 ≤ fu) (h : OK C V) (x y y2 w : Int32) : DT (fx_X7_setConflict fu x y y2 w) C V (PT C V) := by
  have hx := q_rng x
  have hy := q_rng y
  have hy2 := q_rng y2
  have hw := q_rng w
  rw [← q_self x, ← q_self y, ← q_self y2, ← q_self w]
  generalize x.toInt = a at *
  generalize y.toInt = b at *
  generalize y2.toInt = b2 at *
  generalize w.toInt = v at *
  have hj := h.j
  have h1 := h.1
  have eout : ∀ S, f_X7_isOutside fu (i32 v) (-1) 9 S = some (bo (!decide (-1 ≤ v ∧ v ≤ 9))) := fun S => by
    rw [q_m1]; exact s_isOutside (b := -1) (c := 9) (by omega) (by omega) (by omega) (by omega) (by omega) (by omega)
  by_cases e : 0 ≤ a ∧ a < cJ C
  · obtain ⟨k, rfl⟩ : ∃ k : Nat, a = (k : Int) := ⟨a.toNat, by omega⟩
    have hk : k < cJ C := by omega
    obtain ⟨hoJ, hoo⟩ := h1.2.2.2.2.1 k hk
    by_cases e1 : 0 ≤ b ∧ b < 4
    · obtain ⟨m, rfl⟩ : ∃ m : Nat, b = (m : Int) := ⟨b.toNat, by omega⟩
      have hm : m < 4 := by omega
      by_cases e2 : 0 ≤ b2 ∧ b2 < 4
      · obtain ⟨o, rfl⟩ : ∃ o : Nat, b2 = (o : Int) := ⟨b2.toNat, by omega⟩
        have ho4 : o < 4 := by omega
        have hmn := mny_le (cS C k)
        by_cases e3 : m = o
        · subst e3
          refine dt_throw 1 (by omega) h (fun S hS => ?_)
          unfold fx_X7_setConflict fx_X7_setConflict_34
          rw [s_at hj.2 hS.1.1 hx, if_pos e, bxr, s_checkMovement hy, if_pos e1, bxr, bxr, if_pos rfl]
        · by_cases e4 : -1 ≤ v ∧ v ≤ 9
          · cases hb : vB V with
            | true =>
              refine dt_throw 2 (by omega) h (fun S hS => ?_)
              unfold fx_X7_setConflict
              rw [s_at hj.2 hS.1.1 hx, if_pos e, bxr, s_checkMovement hy, if_pos e1, bxr, s_checkMovement hy2, if_pos e2, bxr, eqF (by omega) (by omega) (by omega) (by omega) (by omega), eout, b1s, decide_eq_true e4, Bool.not_true, boF rfl, s_settingUp hS.2, hb, if_neg (by simp), bxl]
            | false =>
              have hho : ∀ S, KS S C V → f_X3_haveOnePhase fu k (i32 (m : Int)) (i32 (o : Int)) S = some (bo (anyF (oneP (cS C k) m o) (mny (cS C k)) 0)) := fun S hS => s_hop2 (hS.1.2.2.1 k hk).1 hoJ hm ho4 (mny (cS C k)) 0 fu (by omega) (by omega)
              by_cases e5 : v = -1 ∨ anyF (oneP (cS C k) m o) (mny (cS C k)) 0 = false
              · have ho' : okJ (cS C k) (va_up (va_up (cC C k) (4 * m + o) v) (4 * o + m) v) (cF C k) (cCy C) := ⟨hoJ.1, fun q hq => by
                  unfold va_up; split
                  · omega
                  · split
                    · omega
                    · exact hoJ.2.1 q hq, hoJ.2.2⟩
                have hcb := hoJ.2.1 (4 * m + o) (by omega)
                refine ⟨.inr (i32 (cC C k (4 * m + o))), updC C k (cS C k) (va_up (va_up (cC C k) (4 * m + o) v) (4 * o + m) v) (cF C k), V, h.st hb rfl (okC_upd h1 ho') (NZ_upd h.2.2.2 (h.2.2.2 k hk)), Or.inr ⟨_, rfl, by omega, by omega⟩, fun S hS => ?_⟩
                have hJ := (hS.1.2.2.1 k hk).1
                have hJ' : SJ (wI (wI S 11 k (4 * m + o) (i32 v)) 11 k (4 * o + m) (i32 v)) k (cS C k) (va_up (va_up (cC C k) (4 * m + o) v) (4 * o + m) v) (cF C k) (cCy C) := ⟨(w_ne (by omega)).trans ((w_ne (by omega)).trans hJ.1), (w_ne (by omega)).trans ((w_ne (by omega)).trans hJ.2.1), fun p hp => (w_ne (by omega)).trans ((w_ne (by omega)).trans (hJ.2.2.1 p hp)), fun q hq => by
                  rw [w_ok, w_ok]
                  unfold va_up
                  by_cases em : q = 4 * o + m
                  · rw [if_pos ⟨rfl, rfl, em⟩, if_pos em]
                  · rw [if_neg (by omega), if_neg em]
                    by_cases em2 : q = 4 * m + o
                    · rw [if_pos ⟨rfl, rfl, em2⟩, if_pos em2]
                    · rw [if_neg (by omega), if_neg em2]; exact hJ.2.2.2.1 q hq, fun m' hm' => (w_ne (by omega)).trans ((w_ne (by omega)).trans (hJ.2.2.2.2 m' hm'))⟩
                obtain ⟨S', hmp, hfp, hsj, hpl⟩ := s_makePlan (fu := fu) hfu hJ' ho'
                have ecl : f_X3_changeClearance fu k (i32 (m : Int)) (i32 (o : Int)) (i32 v) S = some ((), S') := by
                  unfold f_X3_changeClearance f_X3_writeClearance
                  rw [q_4, q_mul, q_add, s_write (by omega) (by omega) (by omega), b2s, q_mul, q_add, s_write (by omega) (by omega) (by omega), b2s, b2s, show ((m : Int) * 4 + (o : Int)).toNat = 4 * m + o by omega, show ((o : Int) * 4 + (m : Int)).toNat = 4 * o + m by omega, hmp, b2s]
                refine ⟨S', ?_, KS_upd h hS hb hk ((frJ.w (by omega)).trans ((frJ.w (by omega)).trans (frJ.pl hfp))) hsj hpl⟩
                unfold fx_X7_setConflict fx_X7_setConflict_74
                rw [s_at hj.2 hS.1.1 hx, if_pos e, bxr, s_checkMovement hy, if_pos e1, bxr, s_checkMovement hy2, if_pos e2, bxr, eqF (by omega) (by omega) (by omega) (by omega) (by omega), eout, b1s, decide_eq_true e4, Bool.not_true, boF rfl, s_settingUp hS.2, hb, if_pos rfl, bxr, show ((k : Int)).toNat = k by omega, s_clearanceOf hm ho4 hJ.2.2.2.1, b1s, ecl, b2s]
                by_cases e6 : v = -1
                · rw [if_pos (show i32 v = (-1 : Int32) by rw [q_m1, e6])]
                · rw [if_neg (fun z => e6 ((q_eq (by omega) (by omega) (by omega) (by omega)).mp (z.trans q_m1))), hho S hS, b1s]
                  rcases e5 with e5 | e5
                  · exact absurd e5 e6
                  · rw [e5, boF rfl]
              · have e6 : v ≠ -1 := fun z => e5 (Or.inl z)
                have e7 : anyF (oneP (cS C k) m o) (mny (cS C k)) 0 = true := by
                  cases hz : anyF (oneP (cS C k) m o) (mny (cS C k)) 0 with
                  | true => rfl
                  | false => exact absurd (Or.inr hz) e5
                refine dt_throw 2 (by omega) h (fun S hS => ?_)
                unfold fx_X7_setConflict
                rw [s_at hj.2 hS.1.1 hx, if_pos e, bxr, s_checkMovement hy, if_pos e1, bxr, s_checkMovement hy2, if_pos e2, bxr, eqF (by omega) (by omega) (by omega) (by omega) (by omega), eout, b1s, decide_eq_true e4, Bool.not_true, boF rfl, s_settingUp hS.2, hb, if_pos rfl, bxr, show ((k : Int)).toNat = k by omega, if_neg (fun z => e6 ((q_eq (by omega) (by omega) (by omega) (by omega)).mp (z.trans q_m1))), hho S hS, b1s, e7, boT rfl]
          · refine dt_throw 1 (by omega) h (fun S hS => ?_)
            unfold fx_X7_setConflict fx_X7_setConflict_34
            rw [s_at hj.2 hS.1.1 hx, if_pos e, bxr, s_checkMovement hy, if_pos e1, bxr, s_checkMovement hy2, if_pos e2, bxr, eqF (by omega) (by omega) (by omega) (by omega) (by omega), eout, b1s, decide_eq_false e4, Bool.not_false, boT rfl]
      · refine dt_throw 3 (by omega) h (fun S hS => ?_)
        unfold fx_X7_setConflict
        rw [s_at hj.2 hS.1.1 hx, if_pos e, bxr, s_checkMovement hy, if_pos e1, bxr, s_checkMovement hy2, if_neg e2, bxl]
    · refine dt_throw 3 (by omega) h (fun S hS => ?_)
      unfold fx_X7_setConflict
      rw [s_at hj.2 hS.1.1 hx, if_pos e, bxr, s_checkMovement hy, if_neg e1, bxl]
  · refine dt_throw 3 (by omega) h (fun S hS => ?_)
    unfold fx_X7_setConflict
    rw [s_at hj.2 hS.1.1 hx, if_neg e, bxl]
end ST
