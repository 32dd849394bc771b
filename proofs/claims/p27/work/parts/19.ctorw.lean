/-! Where a new instance lies: offsets from its first cell. -/
def offC (c k : Nat) : Nat := match c with
  | 7 => 0
  | 1 => 1
  | 10 => 2
  | 3 => 3 + 9 * k
  | 11 => 4 + 9 * k
  | 12 => 5 + 9 * k
  | 13 => 6 + 9 * k
  | 14 => 7 + 9 * k
  | 15 => 8 + 9 * k
  | 16 => 9 + 9 * k
  | 4 => 10 + 9 * k
  | 17 => 11 + 9 * k
  | 0 => 48
  | 2 => 49 + 3 * k
  | 5 => 50 + 3 * (k / 2) + k % 2
  | _ => 61
def gC (D : va_G) (cI cO : ClassId) (b : Nat) : GC := (D, cI, cO, fun c k => b + offC c k)
theorem nc_lt {c k : Nat} (h : k < NC c) : c < 18 ∧ k < 8 := by
  match c, h with
  | 0, h => exact ⟨by decide, Nat.lt_of_lt_of_le h (by decide)⟩
  | 1, h => exact ⟨by decide, Nat.lt_of_lt_of_le h (by decide)⟩
  | 2, h => exact ⟨by decide, Nat.lt_of_lt_of_le h (by decide)⟩
  | 3, h => exact ⟨by decide, Nat.lt_of_lt_of_le h (by decide)⟩
  | 4, h => exact ⟨by decide, Nat.lt_of_lt_of_le h (by decide)⟩
  | 5, h => exact ⟨by decide, Nat.lt_of_lt_of_le h (by decide)⟩
  | 6, h => exact ⟨by decide, Nat.lt_of_lt_of_le h (by decide)⟩
  | 7, h => exact ⟨by decide, Nat.lt_of_lt_of_le h (by decide)⟩
  | 8, h => exact ⟨by decide, Nat.lt_of_lt_of_le h (by decide)⟩
  | 9, h => exact ⟨by decide, Nat.lt_of_lt_of_le h (by decide)⟩
  | 10, h => exact ⟨by decide, Nat.lt_of_lt_of_le h (by decide)⟩
  | 11, h => exact ⟨by decide, Nat.lt_of_lt_of_le h (by decide)⟩
  | 12, h => exact ⟨by decide, Nat.lt_of_lt_of_le h (by decide)⟩
  | 13, h => exact ⟨by decide, Nat.lt_of_lt_of_le h (by decide)⟩
  | 14, h => exact ⟨by decide, Nat.lt_of_lt_of_le h (by decide)⟩
  | 15, h => exact ⟨by decide, Nat.lt_of_lt_of_le h (by decide)⟩
  | 16, h => exact ⟨by decide, Nat.lt_of_lt_of_le h (by decide)⟩
  | 17, h => exact ⟨by decide, Nat.lt_of_lt_of_le h (by decide)⟩
  | c + 18, h => exact absurd h (Nat.not_lt_zero _)
def decC : List (Nat × Nat) := [(7, 0), (1, 0), (10, 0), (3, 0), (11, 0), (12, 0), (13, 0), (14, 0), (15, 0), (16, 0), (4, 0), (17, 0), (3, 1), (11, 1), (12, 1), (13, 1), (14, 1), (15, 1), (16, 1), (4, 1), (17, 1), (3, 2), (11, 2), (12, 2), (13, 2), (14, 2), (15, 2), (16, 2), (4, 2), (17, 2), (3, 3), (11, 3), (12, 3), (13, 3), (14, 3), (15, 3), (16, 3), (4, 3), (17, 3), (3, 4), (11, 4), (12, 4), (13, 4), (14, 4), (15, 4), (16, 4), (4, 4), (17, 4), (0, 0), (2, 0), (5, 0), (5, 1), (2, 1), (5, 2), (5, 3), (2, 2), (5, 4), (5, 5), (2, 3), (5, 6), (5, 7), (6, 0)]
theorem decC_ok : ∀ c, c < 18 → ∀ k, k < 8 → k < NC c → decC[offC c k]? = some (c, k) := by decide +kernel
theorem arrV_ext {cI : ClassId} {N : Nat} {f f' : Nat → Value} (h : ∀ j, j < N → f j = f' j) : arrV cI N f = arrV cI N f' := by
  have e : (fun j : Fin N => f j.val) = fun j : Fin N => f' j.val := funext fun j => h j.val j.isLt
  unfold arrV
  rw [e]
theorem offC_inj {c k c' k' : Nat} (h : k < NC c) (h' : k' < NC c') (e : offC c k = offC c' k') : c = c' ∧ k = k' := by
  have h1 := decC_ok c (nc_lt h).1 k (nc_lt h).2 h
  have h2 := decC_ok c' (nc_lt h').1 k' (nc_lt h').2 h'
  rw [e, h2] at h1
  cases h1
  exact ⟨rfl, rfl⟩
theorem offC_lt {c k : Nat} (h : k < NC c) : offC c k < 62 := (List.getElem?_eq_some_iff.mp (decC_ok c (nc_lt h).1 k (nc_lt h).2 h)).1
theorem wok_C (D : va_G) (cI cO : ClassId) (b : Nat) : wok (wC (gC D cI cO b)) := by
  intro c k c' k' h h' e
  have e : b + offC c k = b + offC c' k' := e
  exact offC_inj h h' (by omega)
/-- the memory of a new instance: all 0 -/
def S00 : Mem := (fun _ _ _ => 0, fun _ _ _ => 0)
def es7 (cI cO : ClassId) (b : Nat) : List va_E := [.inr (7, [.ref (b + 1), .ref (b + 48), .ref (b + 61)])] ++ esX1 cI cO (b + 1) ++ esX0 cI cO (b + 48) (b + 1) ++ esX6 cI cO (b + 61) (b + 1)
theorem hp_C {D : va_G} {cI cO : ClassId} {b : Nat} {H : Heap} (h : hq D clC b (es7 cI cO b) H) : hp (wC (gC D cI cO b)) S00 H := by
  intro c k hk
  match c, hk with
  | 0, hk =>
    match k, hk with
    | 0, _ => exact h.2 48 _ rfl
    | k + 1, hk => exact absurd hk (by show ¬ k + 1 < 1; omega)
  | 1, hk =>
    match k, hk with
    | 0, _ => exact h.2 1 _ rfl
    | k + 1, hk => exact absurd hk (by show ¬ k + 1 < 1; omega)
  | 2, hk =>
    match k, hk with
    | 0, _ => exact h.2 49 _ rfl
    | 1, _ => exact h.2 52 _ rfl
    | 2, _ => exact h.2 55 _ rfl
    | 3, _ => exact h.2 58 _ rfl
    | k + 4, hk => exact absurd hk (by show ¬ k + 4 < 4; omega)
  | 3, hk =>
    match k, hk with
    | 0, _ => exact h.2 3 _ rfl
    | 1, _ => exact h.2 12 _ rfl
    | 2, _ => exact h.2 21 _ rfl
    | 3, _ => exact h.2 30 _ rfl
    | 4, _ => exact h.2 39 _ rfl
    | k + 5, hk => exact absurd hk (by show ¬ k + 5 < 5; omega)
  | 4, hk =>
    match k, hk with
    | 0, _ => exact h.2 10 _ rfl
    | 1, _ => exact h.2 19 _ rfl
    | 2, _ => exact h.2 28 _ rfl
    | 3, _ => exact h.2 37 _ rfl
    | 4, _ => exact h.2 46 _ rfl
    | k + 5, hk => exact absurd hk (by show ¬ k + 5 < 5; omega)
  | 5, hk =>
    match k, hk with
    | 0, _ => exact h.2 50 _ rfl
    | 1, _ => exact h.2 51 _ rfl
    | 2, _ => exact h.2 53 _ rfl
    | 3, _ => exact h.2 54 _ rfl
    | 4, _ => exact h.2 56 _ rfl
    | 5, _ => exact h.2 57 _ rfl
    | 6, _ => exact h.2 59 _ rfl
    | 7, _ => exact h.2 60 _ rfl
    | k + 8, hk => exact absurd hk (by show ¬ k + 8 < 8; omega)
  | 6, hk =>
    match k, hk with
    | 0, _ => exact h.2 61 _ rfl
    | k + 1, hk => exact absurd hk (by show ¬ k + 1 < 1; omega)
  | 7, hk =>
    match k, hk with
    | 0, _ => exact h.2 0 _ rfl
    | k + 1, hk => exact absurd hk (by show ¬ k + 1 < 1; omega)
  | 8, hk => exact absurd hk (Nat.not_lt_zero _)
  | 9, hk => exact absurd hk (Nat.not_lt_zero _)
  | 10, hk =>
    match k, hk with
    | 0, _ =>
      refine Eq.trans (h.2 2 _ rfl) ?_
      show some (vp_cell _ _) = some (vp_cell _ _)
      rw [vp_cell_q, vp_cell_q]
      refine congrArg some (arrV_ext (fun j hj => ?_))
      match j, hj with
      | 0, _ => rfl
      | 1, _ => rfl
      | 2, _ => rfl
      | 3, _ => rfl
      | 4, _ => rfl
      | j + 5, hj => exact absurd hj (by omega)
    | k + 1, hk => exact absurd hk (by show ¬ k + 1 < 1; omega)
  | 11, hk =>
    match k, hk with
    | 0, _ => exact h.2 4 _ rfl
    | 1, _ => exact h.2 13 _ rfl
    | 2, _ => exact h.2 22 _ rfl
    | 3, _ => exact h.2 31 _ rfl
    | 4, _ => exact h.2 40 _ rfl
    | k + 5, hk => exact absurd hk (by show ¬ k + 5 < 5; omega)
  | 12, hk =>
    match k, hk with
    | 0, _ => exact h.2 5 _ rfl
    | 1, _ => exact h.2 14 _ rfl
    | 2, _ => exact h.2 23 _ rfl
    | 3, _ => exact h.2 32 _ rfl
    | 4, _ => exact h.2 41 _ rfl
    | k + 5, hk => exact absurd hk (by show ¬ k + 5 < 5; omega)
  | 13, hk =>
    match k, hk with
    | 0, _ => exact h.2 6 _ rfl
    | 1, _ => exact h.2 15 _ rfl
    | 2, _ => exact h.2 24 _ rfl
    | 3, _ => exact h.2 33 _ rfl
    | 4, _ => exact h.2 42 _ rfl
    | k + 5, hk => exact absurd hk (by show ¬ k + 5 < 5; omega)
  | 14, hk =>
    match k, hk with
    | 0, _ => exact h.2 7 _ rfl
    | 1, _ => exact h.2 16 _ rfl
    | 2, _ => exact h.2 25 _ rfl
    | 3, _ => exact h.2 34 _ rfl
    | 4, _ => exact h.2 43 _ rfl
    | k + 5, hk => exact absurd hk (by show ¬ k + 5 < 5; omega)
  | 15, hk =>
    match k, hk with
    | 0, _ => exact h.2 8 _ rfl
    | 1, _ => exact h.2 17 _ rfl
    | 2, _ => exact h.2 26 _ rfl
    | 3, _ => exact h.2 35 _ rfl
    | 4, _ => exact h.2 44 _ rfl
    | k + 5, hk => exact absurd hk (by show ¬ k + 5 < 5; omega)
  | 16, hk =>
    match k, hk with
    | 0, _ => exact h.2 9 _ rfl
    | 1, _ => exact h.2 18 _ rfl
    | 2, _ => exact h.2 27 _ rfl
    | 3, _ => exact h.2 36 _ rfl
    | 4, _ => exact h.2 45 _ rfl
    | k + 5, hk => exact absurd hk (by show ¬ k + 5 < 5; omega)
  | 17, hk =>
    match k, hk with
    | 0, _ => exact h.2 11 _ rfl
    | 1, _ => exact h.2 20 _ rfl
    | 2, _ => exact h.2 29 _ rfl
    | 3, _ => exact h.2 38 _ rfl
    | 4, _ => exact h.2 47 _ rfl
    | k + 5, hk => exact absurd hk (by show ¬ k + 5 < 5; omega)
  | c + 18, hk => exact absurd hk (Nat.not_lt_zero _)
section CV
variable {own : String} {cc : ByteArray} {nL : Nat} {rm : Room} {X : MX} {A : Nat → Prop} {cn sn : Nat} {L : List (Nat × Value)} {pc pc' : Nat} {st : List Value}
/-- a method of a world called where more is held than that world -/
def behind (P : Heap → Prop) (w : WX) (S' : Mem) (H1 : Heap) : Prop := ∃ H0 : Heap, P H0 ∧ hp w S' H1 ∧ H0.size ≤ H1.size ∧ ∀ q : Nat, q < H0.size → ¬ AA w H0.size q → H1[q]? = H0[q]?
theorem l_callV (h0 : LX own cc nL rm X) {P : Heap → Prop} {w : WX} {S S' : Mem} {C : String} {idx ck k maxL n : Nat} {y : MethodName} {bytes : ByteArray} {ret : Option FieldType} {rc : Room} {o : Option Value} (hK : va_K (wD w) (wCl w) (wTy w) X.2.2.2.2.1) (hw : wok w) (hP : ∀ H, P H → hp w S H) (hA : ∀ H : Heap, P H → X.2.2.2.2.1.heap.size ≤ H.size → ∀ q, AA w H.size q → A q) (ho : isObj w C ck) (hk : k < wN w ck) (hl : Cond.methodLink own idx y ∈ GW) (hi : Cond.instanceMethod y ∈ GW) (hs : Cond.selects C y y ∈ GW) (hc : Cond.code y bytes maxL ret ∈ GW) (hini : Cond.initialized y.cls ∈ GW) (hd : plainY y n) (As rest : List Value) (hM : ctN y bytes maxL ret rc w (.ref (wA w ck k) :: As) S o S') (hst : st = As.reverse ++ .ref (wA w ck k) :: rest) (hn : As.length = n) (hdg : decode cc pc = .ok (.invokevirtual idx, 3)) (e : pc + 3 = pc') (hW : (rest.map fun v => v.category).sum ≤ 8) (hR : rc.cells = 0 ∧ rc.slots = 0 ∧ rc.frames + 1 ≤ rm.frames ∧ 8 + (maxL + 11) + rc.locals ≤ rm.locals) (hcs : cn ≤ rm.cells ∧ sn ≤ rm.slots)
    (kk : LV X A nL cn sn (behind P w S') L pc' (o.toList ++ rest)) : LV X A nL cn sn P L pc st := by
  obtain ⟨p, l, en, R, s, m, args, below, meth, c, Q⟩ := X
  obtain ⟨hx, hb, hml, hown, hts, hN, hlk', rfl⟩ := h0
  subst e
  subst hst
  intro H locs ls hPH hS hls
  have hP0 := hP H hPH
  have hrun := va_runV (As := As) (rest := rest) (p := p) (e := en) (below := below) (meth := meth) (locs := locs) (cells := cn) (slots := sn) (g := F0 m pc ls (As.reverse ++ .ref (wA w ck k) :: rest)) ⟨hx, hb, hml, hown, hts⟩ (hM l H.size) ⟨callB_of n hts (goodGW hc) rfl hR.1 hR.2.1 (hts _ hini) (hts _ hl) hd ⟨hR.2.2.1, hR.2.2.2⟩, hts _ hi, hts _ hs⟩ ⟨pc_blind, grecv ho hP0 hK hk, pc_in hP0 hK hN hw⟩ rfl hn hls.1 rfl (lv_room hW) hdg ⟨hcs.1, hcs.2⟩
  intro T hT X
  obtain ⟨v, st₀, t, T', Lo, h0, X', hL, e1, e2, ⟨⟨hv, hb1⟩, hz, hk1⟩, st⟩ := hrun T hT X
  cases hv
  rw [h0] at hz hk1
  have hAA := hA H hPH hS.1
  obtain ⟨t2, a1, b1⟩ := kk T'.heap (locs ++ Lo) ls (by
      rw [e1]
      exact ⟨H, hPH, hb1, hz, hk1⟩)
    ⟨Nat.le_trans hS.1 (by rw [e1]; exact hz), fun q h1 h2 => by rw [e1, hk1 q (Nat.lt_of_lt_of_le h1 hS.1) (fun z => h2 (hAA q z))]; exact hS.2.1 q h1 h2, fun q hq => by
      rcases List.mem_append.mp hq with h | h
      · exact hS.2.2 q h
      · exact hAA _ (hL q h)⟩ hls T' rfl X'
  exact ⟨t2, st t2 a1, b1⟩
end CV
