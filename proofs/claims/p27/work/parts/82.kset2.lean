/-! Links, phases, another corridor. -/
theorem bzr {α β : Type} {r : α} {T : Nat → Option β} {K : α → Option β} : bz (.inr r) T K = K r := rfl
theorem bzl {α β : Type} {e : Nat} {T : Nat → Option β} {K : α → Option β} : bz (.inl e : Nat ⊕ α) T K = T e := rfl
section ST2
variable {fu : Nat} {S : Mem} {C : Cf} {V : Rn}
theorem d_link (h : OK C V) (x y w : Int32) : DT (fx_L_link fu x y w) C V (PT C V) := by
  have hx := q_rng x
  have hy := q_rng y
  have hw := q_rng w
  rw [← q_self x, ← q_self y, ← q_self w]
  generalize x.toInt = a at *
  generalize y.toInt = b at *
  generalize w.toInt = v at *
  have hj := h.j
  have h1 := h.1
  have eout : ∀ S, f_X7_isOutside fu (i32 b) 1 60 S = some (bo (!decide (1 ≤ b ∧ b ≤ 60))) := fun S => s_isOutside (b := 1) (c := 60) (by omega) (by omega) (by omega) (by omega) (by omega) (by omega)
  have eout2 : ∀ S, f_X7_isOutside fu (i32 v) 1 40 S = some (bo (!decide (1 ≤ v ∧ v ≤ 40))) := fun S => s_isOutside (b := 1) (c := 40) (by omega) (by omega) (by omega) (by omega) (by omega) (by omega)
  by_cases e : 0 ≤ a ∧ a + 1 < cJ C
  · obtain ⟨k, rfl⟩ : ∃ k : Nat, a = (k : Int) := ⟨a.toNat, by omega⟩
    have hk : k + 1 < cJ C := by omega
    by_cases e1 : 1 ≤ b ∧ b ≤ 60
    · by_cases e2 : 1 ≤ v ∧ v ≤ 40
      · cases hb : vB V with
        | true =>
          refine dt_throw 2 (by omega) h (fun S hS => ?_)
          unfold fx_L_link fx_X7_setLink
          rw [s_linkFrom hj hS.1.1 hx, if_pos e, bxr, eout, b1s, decide_eq_true e1, Bool.not_true, boF rfl, eout2, b1s, decide_eq_true e2, Bool.not_true, boF rfl, s_settingUp hS.2, hb, if_neg (by simp), bxl, b2s, bzl]
        | false =>
          have hC' : okC (cJ C, cCy C, cS C, cC C, cF C, cO C, va_up (cLs C) k b, va_up (cLr C) k v) := ⟨h1.1, h1.2.1, h1.2.2.1, h1.2.2.2.1, h1.2.2.2.2.1, fun k' hk' => by
            have := h1.2.2.2.2.2 k' hk'
            show 1 ≤ va_up (cLs C) k b k' ∧ va_up (cLs C) k b k' ≤ 60 ∧ 1 ≤ va_up (cLr C) k v k' ∧ va_up (cLr C) k v k' ≤ 40
            unfold va_up
            split
            · omega
            · exact this⟩
          refine ⟨.inr (i32 0), (cJ C, cCy C, cS C, cC C, cF C, cO C, va_up (cLs C) k b, va_up (cLr C) k v), V, h.st hb rfl hC' h.2.2.2, Or.inr ⟨0, rfl, by omega, by omega⟩, fun S hS => ⟨wI (wI S 4 k 1 (i32 b)) 4 k 2 (i32 v), ?_, ?_⟩⟩
          · unfold fx_L_link fx_X7_setLink
            rw [s_linkFrom hj hS.1.1 hx, if_pos e, bxr, eout, b1s, decide_eq_true e1, Bool.not_true, boF rfl, eout2, b1s, decide_eq_true e2, Bool.not_true, boF rfl, s_settingUp hS.2, hb, if_pos rfl, bxr, b2s, bzr, show ((k : Int)).toNat = k by omega]
            rfl
          · obtain ⟨h2, h5⟩ := hS
            refine ⟨?_, ?_⟩
            · refine ⟨(w_ne (by omega)).trans ((w_ne (by omega)).trans h2.1), (w_ne (by omega)).trans ((w_ne (by omega)).trans h2.2.1), fun k' hk' => ?_, fun k' hk' => ?_⟩
              · obtain ⟨g1, g2, g3⟩ := h2.2.2.1 k' hk'
                refine ⟨⟨(w_ne (by omega)).trans ((w_ne (by omega)).trans g1.1), (w_ne (by omega)).trans ((w_ne (by omega)).trans g1.2.1), fun p hp => (w_ne (by omega)).trans ((w_ne (by omega)).trans (g1.2.2.1 p hp)), fun q hq => (w_ne (by omega)).trans ((w_ne (by omega)).trans (g1.2.2.2.1 q hq)), fun m hm => (w_ne (by omega)).trans ((w_ne (by omega)).trans (g1.2.2.2.2 m hm))⟩, ⟨fun p hp => (w_ne (by omega)).trans ((w_ne (by omega)).trans (g2.1 p hp)), (w_ne (by omega)).trans ((w_ne (by omega)).trans g2.2.1), fun h0 => ⟨fun p hp => (w_ne (by omega)).trans ((w_ne (by omega)).trans ((g2.2.2 h0).1 p hp)), fun u hu => (w_ne (by omega)).trans ((w_ne (by omega)).trans ((g2.2.2 h0).2 u hu))⟩⟩, (w_ne (by omega)).trans ((w_ne (by omega)).trans g3)⟩
              · obtain ⟨g1, g2⟩ := h2.2.2.2 k' hk'
                show (wI (wI S 4 k 1 (i32 b)) 4 k 2 (i32 v)).1 4 k' 1 = i32 (va_up (cLs C) k b k') ∧ (wI (wI S 4 k 1 (i32 b)) 4 k 2 (i32 v)).1 4 k' 2 = i32 (va_up (cLr C) k v k')
                rw [w_ok, w_ok, w_ok, w_ok]
                unfold va_up
                by_cases ek : k' = k
                · rw [if_neg (by omega), if_pos ⟨rfl, ek, rfl⟩, if_pos ek, if_pos ⟨rfl, ek, rfl⟩, if_pos ek]; exact ⟨rfl, rfl⟩
                · rw [if_neg (by omega), if_neg (by omega), if_neg ek, if_neg (by omega), if_neg (by omega), if_neg ek]; exact ⟨g1, g2⟩
            · refine kcV_idle (C := C) ?_ h.2.1 hb rfl
              obtain ⟨g1, g2, g3, g4, g5, g6, g7⟩ := h5
              have far : ∀ a b' i, (a ≠ 4 ∨ i = 3) → (wI (wI S 4 k 1 (i32 b)) 4 k 2 (i32 v)).1 a b' i = S.1 a b' i := fun a b' i hq => (w_ne (by omega)).trans (w_ne (by omega))
              refine ⟨(far _ _ _ (by omega)).trans g1, (far _ _ _ (by omega)).trans g2, (far _ _ _ (by omega)).trans g3, (far _ _ _ (by omega)).trans g4, (far _ _ _ (by omega)).trans g5, fun k' hk' => ⟨(far _ _ _ (by omega)).trans (g6 k' hk').1, (far _ _ _ (by omega)).trans (g6 k' hk').2.1, ?_⟩, fun k' hk' => ⟨(far _ _ _ (by omega)).trans (g7 k' hk').1, fun r hr => (far _ _ _ (by omega)).trans ((g7 k' hk').2 r hr)⟩⟩
              have := (g6 k' hk').2.2
              rw [((h.2.1.2.2.2.2.2.2.2.2.2.2.2.1 hb).2 k' hk').2.2.2] at this ⊢
              exact (far _ _ _ (by omega)).trans this
      · refine dt_throw 1 (by omega) h (fun S hS => ?_)
        unfold fx_L_link fx_X7_setLink fx_X7_setLink_30
        rw [s_linkFrom hj hS.1.1 hx, if_pos e, bxr, eout, b1s, decide_eq_true e1, Bool.not_true, boF rfl, eout2, b1s, decide_eq_false e2, Bool.not_false, boT rfl, b2s, bzl]
    · refine dt_throw 1 (by omega) h (fun S hS => ?_)
      unfold fx_L_link fx_X7_setLink fx_X7_setLink_30
      rw [s_linkFrom hj hS.1.1 hx, if_pos e, bxr, eout, b1s, decide_eq_false e1, Bool.not_false, boT rfl, b2s, bzl]
  · refine dt_throw 3 (by omega) h (fun S hS => ?_)
    unfold fx_L_link fx_X7_setLink
    rw [s_linkFrom hj hS.1.1 hx, if_neg e, bxl, b2s, bzl]
theorem d_setPhases (hfu : 100 ≤ fu) (h : OK C V) (x y1 y2 y3 y4 : Int32) : DT (fx_X7_setPhases fu x y1 y2 y3 y4) C V (PT C V) := by
  have hx := q_rng x
  have hy1 := q_rng y1
  have hy2 := q_rng y2
  have hy3 := q_rng y3
  have hy4 := q_rng y4
  rw [← q_self x, ← q_self y1, ← q_self y2, ← q_self y3, ← q_self y4]
  generalize x.toInt = a at *
  generalize y1.toInt = b1 at *
  generalize y2.toInt = b2' at *
  generalize y3.toInt = b3 at *
  generalize y4.toInt = b4 at *
  have hj := h.j
  have h1 := h.1
  have eout : ∀ (t lo hi : Int) (T : Mem), -2147483648 ≤ t ∧ t < 2147483648 → -100 ≤ lo → lo ≤ 100 → -100 ≤ hi → hi ≤ 100 → f_X7_isOutside fu (i32 t) (i32 lo) (i32 hi) T = some (bo (!decide (lo ≤ t ∧ t ≤ hi))) := fun t lo hi T ht h1 h2 h3 h4 => s_isOutside (by omega) (by omega) (by omega) (by omega) (by omega) (by omega)
  by_cases e : 0 ≤ a ∧ a < cJ C
  · obtain ⟨k, rfl⟩ : ∃ k : Nat, a = (k : Int) := ⟨a.toNat, by omega⟩
    have hk : k < cJ C := by omega
    obtain ⟨hoJ, hoo⟩ := h1.2.2.2.2.1 k hk
    by_cases hare : (1 ≤ b1 ∧ b1 ≤ 15) ∧ (0 ≤ b2' ∧ b2' ≤ 15) ∧ (0 ≤ b3 ∧ b3 ≤ (if b2' = 0 then 0 else 15)) ∧ (0 ≤ b4 ∧ b4 ≤ (if b3 = 0 then 0 else 15))
    · obtain ⟨g1, g2, g3, g4⟩ := hare
      have g3' : 0 ≤ b3 ∧ b3 ≤ 15 := by split at g3 <;> omega
      have g4' : 0 ≤ b4 ∧ b4 ≤ 15 := by split at g4 <;> omega
      obtain ⟨p1, rfl⟩ : ∃ p : Nat, b1 = (p : Int) := ⟨b1.toNat, by omega⟩
      obtain ⟨p2, rfl⟩ : ∃ p : Nat, b2' = (p : Int) := ⟨b2'.toNat, by omega⟩
      obtain ⟨p3, rfl⟩ : ∃ p : Nat, b3 = (p : Int) := ⟨b3.toNat, by omega⟩
      obtain ⟨p4, rfl⟩ : ∃ p : Nat, b4 = (p : Int) := ⟨b4.toNat, by omega⟩
      have eC : ∀ S, KS S C V → fx_X7_setPhases fu (i32 (k : Int)) (i32 (p1 : Int)) (i32 (p2 : Int)) (i32 (p3 : Int)) (i32 (p4 : Int)) S = bx (if vB V = false then some (.inr ()) else some (.inl 2)) (fun e => (.inl e, S)) (fun _ => if bo (bad (cC C k) p1) = 0 then (if bo (bad (cC C k) p2) = 0 then (if bo (bad (cC C k) p3) = 0 then (if bo (bad (cC C k) p4) = 0 then b2 (f_X3_changePhases fu k (i32 (p1 : Int)) (i32 (p2 : Int)) (i32 (p3 : Int)) (i32 (p4 : Int)) S) (fun _ S139 => some (.inr (S139.1 3 k 7), S139)) else some (.inl 2, S)) else some (.inl 2, S)) else some (.inl 2, S)) else some (.inl 2, S)) := by
        intro S hS
        have hJ := (hS.1.2.2.1 k hk).1
        unfold fx_X7_setPhases
        rw [s_at hj.2 hS.1.1 hx, if_pos e, bxr, show ((k : Int)).toNat = k by omega]
        have n1 : f_X7_isOutside fu (i32 (p1 : Int)) 1 15 S = some (bo false) := (eout _ 1 15 S hy1 (by omega) (by omega) (by omega) (by omega)).trans (by rw [decide_eq_true g1]; rfl)
        have n2 : f_X7_isOutside fu (i32 (p2 : Int)) 0 15 S = some (bo false) := (eout _ 0 15 S hy2 (by omega) (by omega) (by omega) (by omega)).trans (by rw [decide_eq_true g2]; rfl)
        have n30 : (p2 : Int) = 0 → f_X7_isOutside fu (i32 (p3 : Int)) 0 0 S = some (bo false) := fun z => (eout _ 0 0 S hy3 (by omega) (by omega) (by omega) (by omega)).trans (by rw [if_pos z] at g3; rw [decide_eq_true (by omega)]; rfl)
        have n31 : f_X7_isOutside fu (i32 (p3 : Int)) 0 15 S = some (bo false) := (eout _ 0 15 S hy3 (by omega) (by omega) (by omega) (by omega)).trans (by rw [decide_eq_true g3']; rfl)
        have n40 : (p3 : Int) = 0 → f_X7_isOutside fu (i32 (p4 : Int)) 0 0 S = some (bo false) := fun z => (eout _ 0 0 S hy4 (by omega) (by omega) (by omega) (by omega)).trans (by rw [if_pos z] at g4; rw [decide_eq_true (by omega)]; rfl)
        have n41 : f_X7_isOutside fu (i32 (p4 : Int)) 0 15 S = some (bo false) := (eout _ 0 15 S hy4 (by omega) (by omega) (by omega) (by omega)).trans (by rw [decide_eq_true g4']; rfl)
        have s1 := s_conf (fu := fu) (by omega) hJ hoJ (a := p1) (by omega)
        have s2 := s_conf (fu := fu) (by omega) hJ hoJ (a := p2) (by omega)
        have s3 := s_conf (fu := fu) (by omega) hJ hoJ (a := p3) (by omega)
        have s4 := s_conf (fu := fu) (by omega) hJ hoJ (a := p4) (by omega)
        rw [n1, b1s, boF rfl, n2, b1s, boF rfl, eq0 (by omega)]
        unfold fx_X7_setPhases_43 fx_X7_setPhases_63 fx_X7_setPhases_121
        by_cases z : p2 = 0
        · rw [if_pos z, n30 (by omega), b1s, boF rfl, eq0 (by omega)]
          by_cases z3 : p3 = 0
          · rw [if_pos z3, n40 (by omega), b1s, boF rfl, s_settingUp hS.2, s1, s2, s3, s4, b1s, b1s, b1s, b1s]
          · rw [if_neg z3, n41, b1s, boF rfl, s_settingUp hS.2, s1, s2, s3, s4, b1s, b1s, b1s, b1s]
        · rw [if_neg z, n31, b1s, boF rfl, eq0 (by omega)]
          by_cases z3 : p3 = 0
          · rw [if_pos z3, n40 (by omega), b1s, boF rfl, s_settingUp hS.2, s1, s2, s3, s4, b1s, b1s, b1s, b1s]
          · rw [if_neg z3, n41, b1s, boF rfl, s_settingUp hS.2, s1, s2, s3, s4, b1s, b1s, b1s, b1s]
      cases hb : vB V with
      | true =>
        refine dt_throw 2 (by omega) h (fun S hS => ?_)
        rw [eC S hS, hb, if_neg (by simp), bxl]
      | false =>
        by_cases hany : bad (cC C k) p1 = false ∧ bad (cC C k) p2 = false ∧ bad (cC C k) p3 = false ∧ bad (cC C k) p4 = false
        · obtain ⟨z1, z2, z3, z4⟩ := hany
          have hmn4 := mny4 p1 p2 p3 p4
          have hmnb := mny_le (s4 p1 p2 p3 p4)
          have ho' : okJ (s4 p1 p2 p3 p4) (cC C k) (cF C k) (cCy C) := ⟨fun p hp => by
            unfold s4; split
            · omega
            · split
              · omega
              · split <;> omega, hoJ.2⟩
          refine ⟨.inr (i32 (mny (s4 p1 p2 p3 p4) : Int)), updC C k (s4 p1 p2 p3 p4) (cC C k) (cF C k), V, h.st hb rfl (okC_upd h1 ho') (NZ_upd h.2.2.2 (show p1 ≠ 0 by omega)), Or.inr ⟨_, rfl, by omega, by omega⟩, fun S hS => ?_⟩
          have hJ := (hS.1.2.2.1 k hk).1
          have hJ' : ∀ T : Mem, (∀ a b i, (b ≠ k ∨ (a ≠ 12 ∧ (a ≠ 3 ∨ i ≠ 7))) → T.1 a b i = S.1 a b i) → T.1 3 k 7 = i32 (mny (s4 p1 p2 p3 p4) : Int) → T.1 12 k 0 = i32 (p1 : Int) → T.1 12 k 1 = i32 (p2 : Int) → T.1 12 k 2 = i32 (p3 : Int) → T.1 12 k 3 = i32 (p4 : Int) → SJ T k (s4 p1 p2 p3 p4) (cC C k) (cF C k) (cCy C) := by
            intro T hT t7 t0 t1 t2 t3
            refine ⟨t7, (hT _ _ _ (by omega)).trans hJ.2.1, fun p hp => ?_, fun q hq => (hT _ _ _ (by omega)).trans (hJ.2.2.2.1 q hq), fun m hm => (hT _ _ _ (by omega)).trans (hJ.2.2.2.2 m hm)⟩
            match p, hp with
            | 0, _ => exact t0
            | 1, _ => exact t1
            | 2, _ => exact t2
            | 3, _ => exact t3
            | p + 4, hp => exact absurd hp (by omega)
          have hW : f_X3_writeSets fu k (i32 (p1 : Int)) (i32 (p2 : Int)) (i32 (p3 : Int)) (i32 (p4 : Int)) S = some ((), wI (wI (wI (wI (wI S 12 k 0 (i32 (p1 : Int))) 12 k 1 (i32 (p2 : Int))) 12 k 2 (i32 (p3 : Int))) 12 k 3 (i32 (p4 : Int))) 3 k 7 (i32 (mny (s4 p1 p2 p3 p4) : Int))) := by
            unfold f_X3_writeSets f_X3_writeSets_64
            have w0 : ∀ (T : Mem) (v : Int32), f_X7_write fu 12 4 k 0 v T = some ((), wI T 12 k 0 v) := fun T v => s_write (a := 0) (by omega) (by omega) (by omega)
            have w1 : ∀ (T : Mem) (v : Int32), f_X7_write fu 12 4 k 1 v T = some ((), wI T 12 k 1 v) := fun T v => s_write (a := 1) (by omega) (by omega) (by omega)
            have w2 : ∀ (T : Mem) (v : Int32), f_X7_write fu 12 4 k 2 v T = some ((), wI T 12 k 2 v) := fun T v => s_write (a := 2) (by omega) (by omega) (by omega)
            have w3 : ∀ (T : Mem) (v : Int32), f_X7_write fu 12 4 k 3 v T = some ((), wI T 12 k 3 v) := fun T v => s_write (a := 3) (by omega) (by omega) (by omega)
            rw [w0, b2s, w1, b2s, w2, b2s, w3, b2s, eq0 (by omega), eq0 (by omega), eq0 (by omega), hmn4]
            split
            · rfl
            · split
              · rfl
              · split <;> rfl
          have hSJ := hJ' (wI (wI (wI (wI (wI S 12 k 0 (i32 (p1 : Int))) 12 k 1 (i32 (p2 : Int))) 12 k 2 (i32 (p3 : Int))) 12 k 3 (i32 (p4 : Int))) 3 k 7 (i32 (mny (s4 p1 p2 p3 p4) : Int))) (fun a b i hq => by
            rw [w_ne (by omega), w_ne (by omega), w_ne (by omega), w_ne (by omega), w_ne (by omega)]) w_eq (by rw [w_ne (by omega), w_ne (by omega), w_ne (by omega), w_ne (by omega), w_eq]) (by rw [w_ne (by omega), w_ne (by omega), w_ne (by omega), w_eq]) (by rw [w_ne (by omega), w_ne (by omega), w_eq]) (by rw [w_ne (by omega), w_eq])
          obtain ⟨S', hmp, hfp, hsj, hpl⟩ := s_makePlan (fu := fu) hfu hSJ ho'
          have ecl : f_X3_changePhases fu k (i32 (p1 : Int)) (i32 (p2 : Int)) (i32 (p3 : Int)) (i32 (p4 : Int)) S = some ((), S') := by
            unfold f_X3_changePhases
            rw [hW, b2s, hmp, b2s]
          have hfj : frJ k S S' := (frJ.w (by omega)).trans ((frJ.w (by omega)).trans ((frJ.w (by omega)).trans ((frJ.w (by omega)).trans ((frJ.w (by omega)).trans (frJ.pl hfp)))))
          refine ⟨S', ?_, KS_upd h hS hb hk hfj hsj hpl⟩
          rw [eC S hS, hb, if_pos rfl, bxr, z1, z2, z3, z4, boF rfl, boF rfl, boF rfl, boF rfl, ecl, b2s, hsj.1]
        · refine dt_throw 2 (by omega) h (fun S hS => ?_)
          rw [eC S hS, hb, if_pos rfl, bxr]
          cases z1 : bad (cC C k) p1 with
          | true => rw [boT rfl]
          | false =>
            rw [boF rfl]
            cases z2 : bad (cC C k) p2 with
            | true => rw [boT rfl]
            | false =>
              rw [boF rfl]
              cases z3 : bad (cC C k) p3 with
              | true => rw [boT rfl]
              | false =>
                rw [boF rfl]
                cases z4 : bad (cC C k) p4 with
                | true => rw [boT rfl]
                | false => exact absurd ⟨z1, z2, z3, z4⟩ hany
    · refine dt_throw 1 (by omega) h (fun S hS => ?_)
      have n1 : f_X7_isOutside fu (i32 b1) 1 15 S = some (bo (!decide (1 ≤ b1 ∧ b1 ≤ 15))) := eout _ 1 15 S hy1 (by omega) (by omega) (by omega) (by omega)
      have n2 : f_X7_isOutside fu (i32 b2') 0 15 S = some (bo (!decide (0 ≤ b2' ∧ b2' ≤ 15))) := eout _ 0 15 S hy2 (by omega) (by omega) (by omega) (by omega)
      have n30 : f_X7_isOutside fu (i32 b3) 0 0 S = some (bo (!decide (0 ≤ b3 ∧ b3 ≤ 0))) := eout _ 0 0 S hy3 (by omega) (by omega) (by omega) (by omega)
      have n31 : f_X7_isOutside fu (i32 b3) 0 15 S = some (bo (!decide (0 ≤ b3 ∧ b3 ≤ 15))) := eout _ 0 15 S hy3 (by omega) (by omega) (by omega) (by omega)
      have n40 : f_X7_isOutside fu (i32 b4) 0 0 S = some (bo (!decide (0 ≤ b4 ∧ b4 ≤ 0))) := eout _ 0 0 S hy4 (by omega) (by omega) (by omega) (by omega)
      have n41 : f_X7_isOutside fu (i32 b4) 0 15 S = some (bo (!decide (0 ≤ b4 ∧ b4 ≤ 15))) := eout _ 0 15 S hy4 (by omega) (by omega) (by omega) (by omega)
      unfold fx_X7_setPhases
      rw [s_at hj.2 hS.1.1 hx, if_pos e, bxr, n1, b1s]
      unfold fx_X7_setPhases_43 fx_X7_setPhases_63 fx_X7_setPhases_69
      by_cases g1 : 1 ≤ b1 ∧ b1 ≤ 15
      · rw [decide_eq_true g1, Bool.not_true, boF rfl, n2, b1s]
        by_cases g2 : 0 ≤ b2' ∧ b2' ≤ 15
        · rw [decide_eq_true g2, Bool.not_true, boF rfl, n30, n31, eqz hy2, b1s, b1s, eqz hy3, n40, n41, b1s, b1s]
          by_cases z2 : b2' = 0
          · rw [if_pos z2]
            by_cases g3 : 0 ≤ b3 ∧ b3 ≤ 0
            · have : ¬ (0 ≤ b4 ∧ b4 ≤ 0) := fun g4 => hare ⟨g1, g2, by rw [if_pos z2]; exact g3, by rw [if_pos (show b3 = 0 by omega)]; exact g4⟩
              rw [decide_eq_true g3, Bool.not_true, boF rfl, if_pos (show b3 = 0 by omega), decide_eq_false this, Bool.not_false, boT rfl]
            · rw [decide_eq_false g3, Bool.not_false, boT rfl]
          · rw [if_neg z2]
            by_cases g3 : 0 ≤ b3 ∧ b3 ≤ 15
            · rw [decide_eq_true g3, Bool.not_true, boF rfl]
              by_cases z3 : b3 = 0
              · have : ¬ (0 ≤ b4 ∧ b4 ≤ 0) := fun g4 => hare ⟨g1, g2, by rw [if_neg z2]; exact g3, by rw [if_pos z3]; exact g4⟩
                rw [if_pos z3, decide_eq_false this, Bool.not_false, boT rfl]
              · have : ¬ (0 ≤ b4 ∧ b4 ≤ 15) := fun g4 => hare ⟨g1, g2, by rw [if_neg z2]; exact g3, by rw [if_neg z3]; exact g4⟩
                rw [if_neg z3, decide_eq_false this, Bool.not_false, boT rfl]
            · rw [decide_eq_false g3, Bool.not_false, boT rfl]
        · rw [decide_eq_false g2, Bool.not_false, boT rfl]
      · rw [decide_eq_false g1, Bool.not_false, boT rfl]
  · refine dt_throw 3 (by omega) h (fun S hS => ?_)
    unfold fx_X7_setPhases
    rw [s_at hj.2 hS.1.1 hx, if_neg e, bxl]
theorem IV0 {jn : Nat} (hj : 2 ≤ jn ∧ jn ≤ 5) : IV jn V0f := by
  refine ⟨?_, by decide⟩
  have e : sms (hld V0f) (jn - 1) = 0 := by
    have h1 := sms_le (f := hld V0f) (b := 0) (jn - 1) (fun i _ => Int.le_refl 0)
    have h2 := sms_ge (f := hld V0f) (b := 0) (jn - 1) (fun i _ => Int.le_refl 0)
    rw [Int.mul_zero] at h1 h2
    omega
  rw [e]
  rfl
theorem OK0 {jn : Nat} {cy : Int} (hj : 2 ≤ jn ∧ jn ≤ 5) (hcy : 30 ≤ cy ∧ cy ≤ 90) : OK (C0f jn cy) V0f := ⟨okC0 hj hcy, okV0, IV0 hj, fun _ _ => (show s0 0 ≠ 0 by decide)⟩
/-- a new object -/
theorem k_init (hfu : 100 ≤ fu) : ∃ S : Mem, f_X1_reset fu 2 60 S00 = some ((), S) ∧ KS S (C0f 2 60) V0f := by
  obtain ⟨S, e1, e2, e3, e4, -⟩ := k_reset (fu := fu) (jn := 2) (cy := 60) (S := S00) hfu (by omega) (by omega)
  exact ⟨S, e1, e2, e3 (e4 1) (e4 2) (e4 3) (e4 4) (e4 5)⟩
/-- what begin answers: 0, or it throws -/
theorem k_begin (hfu : 100 ≤ fu) {jn : Nat} {b : Int} (hj : 2 ≤ jn ∧ jn ≤ 5) (hb : 30 ≤ b ∧ b ≤ 90) (S : Mem) : ∃ S', fx_L_begin fu (i32 (jn : Int)) (i32 b) S = some (.inr (i32 0), S') ∧ KS S' (C0f jn b) V0f := by
  have o1 : f_X7_isOutside fu (i32 (jn : Int)) 2 5 S = some (bo (!decide (2 ≤ (jn : Int) ∧ (jn : Int) ≤ 5))) := s_isOutside (b := 2) (c := 5) (by omega) (by omega) (by omega) (by omega) (by omega) (by omega)
  have o2 : f_X7_isOutside fu (i32 b) 30 90 S = some (bo (!decide (30 ≤ b ∧ b ≤ 90))) := s_isOutside (b := 30) (c := 90) (by omega) (by omega) (by omega) (by omega) (by omega) (by omega)
  obtain ⟨T, e1, e2, e3, e4, e5⟩ := k_reset (fu := fu) (jn := jn) (cy := b) (S := S) hfu (by omega) hb
  unfold fx_L_begin fx_X7_begin f_X6_reset
  rw [o1, b1s, decide_eq_true (show 2 ≤ (jn : Int) ∧ (jn : Int) ≤ 5 by omega), Bool.not_true, boF rfl, o2, b1s, decide_eq_true hb, Bool.not_true, boF rfl, e1, b2s, b2s, b2s, bzr]
  generalize hU : wI (wI (wI (wI (wI T 6 0 1 0) 6 0 2 0) 6 0 3 0) 6 0 4 0) 6 0 5 0 = U
  have far : ∀ a b i, a ≠ 6 → U.1 a b i = T.1 a b i := fun a b i hq => by rw [← hU, w_ne (by omega), w_ne (by omega), w_ne (by omega), w_ne (by omega), w_ne (by omega)]
  refine ⟨_, rfl, ?_, ?_⟩
  · refine ⟨(far _ _ _ (by omega)).trans e2.1, (far _ _ _ (by omega)).trans e2.2.1, fun k hk => ?_, fun k hk => ⟨(far _ _ _ (by omega)).trans (e2.2.2.2 k hk).1, (far _ _ _ (by omega)).trans (e2.2.2.2 k hk).2⟩⟩
    obtain ⟨⟨a1, a2, a3, a4, a5⟩, ⟨b1, b2, b3⟩, g3⟩ := e2.2.2.1 k hk
    exact ⟨⟨(far _ _ _ (by omega)).trans a1, (far _ _ _ (by omega)).trans a2, fun p hp => (far _ _ _ (by omega)).trans (a3 p hp), fun p hp => (far _ _ _ (by omega)).trans (a4 p hp), fun p hp => (far _ _ _ (by omega)).trans (a5 p hp)⟩, ⟨fun p hp => (far _ _ _ (by omega)).trans (b1 p hp), (far _ _ _ (by omega)).trans b2, fun z => ⟨fun p hp => (far _ _ _ (by omega)).trans ((b3 z).1 p hp), fun u hu => (far _ _ _ (by omega)).trans ((b3 z).2 u hu)⟩⟩, (far _ _ _ (by omega)).trans g3⟩
  · refine ⟨?_, ?_, ?_, ?_, ?_, fun k hk => ?_, fun k hk => ?_⟩
    · rw [← hU, w_ne (by omega), w_ne (by omega), w_ne (by omega), w_ne (by omega), w_eq]; rfl
    · rw [← hU, w_ne (by omega), w_ne (by omega), w_ne (by omega), w_eq]; rfl
    · rw [← hU, w_ne (by omega), w_ne (by omega), w_eq]; rfl
    · rw [← hU, w_ne (by omega), w_eq]; rfl
    · rw [← hU, w_eq]; rfl
    · obtain ⟨h1, h2, h3, h4, h5, h6, h7, h8, h9, h10⟩ := e5 k hk
      exact ⟨(far _ _ _ (by omega)).trans h4, (far _ _ _ (by omega)).trans h5, (far 3 k 13 (by omega)).trans h6⟩
    · have hk : k + 1 < jn := hk
      obtain ⟨h1, h2, h3, h4, h5, h6, h7, h8, h9, h10⟩ := e5 k (by omega)
      exact ⟨(far _ _ _ (by omega)).trans h9, fun r hr => (far _ _ _ (by omega)).trans (h10 r hr)⟩
theorem d_begin (hfu : 100 ≤ fu) (h : OK C V) (x y : Int32) : DT (fx_L_begin fu x y) C V (PT C V) := by
  have hx := q_rng x
  have hy := q_rng y
  rw [← q_self x, ← q_self y]
  generalize x.toInt = a at *
  generalize y.toInt = b at *
  have o1 : ∀ S, f_X7_isOutside fu (i32 a) 2 5 S = some (bo (!decide (2 ≤ a ∧ a ≤ 5))) := fun S => s_isOutside (b := 2) (c := 5) (by omega) (by omega) (by omega) (by omega) (by omega) (by omega)
  have o2 : ∀ S, f_X7_isOutside fu (i32 b) 30 90 S = some (bo (!decide (30 ≤ b ∧ b ≤ 90))) := fun S => s_isOutside (b := 30) (c := 90) (by omega) (by omega) (by omega) (by omega) (by omega) (by omega)
  by_cases g1 : 2 ≤ a ∧ a ≤ 5
  · by_cases g2 : 30 ≤ b ∧ b ≤ 90
    · obtain ⟨jn, rfl⟩ : ∃ p : Nat, a = (p : Int) := ⟨a.toNat, by omega⟩
      exact ⟨.inr (i32 0), C0f jn b, V0f, OK0 (by omega) g2, Or.inr ⟨0, rfl, by omega, by omega⟩, fun S _ => k_begin hfu (by omega) g2 S⟩
    · refine dt_throw 1 (by omega) h (fun S hS => ?_)
      unfold fx_L_begin fx_X7_begin fx_X7_begin_20
      rw [o1, b1s, decide_eq_true g1, Bool.not_true, boF rfl, o2, b1s, decide_eq_false g2, Bool.not_false, boT rfl, b2s, bzl]
  · refine dt_throw 1 (by omega) h (fun S hS => ?_)
    unfold fx_L_begin fx_X7_begin fx_X7_begin_20
    rw [o1, b1s, decide_eq_false g1, Bool.not_false, boT rfl, b2s, bzl]
end ST2
