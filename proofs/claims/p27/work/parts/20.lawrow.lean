/-! The law's own rows: its script, its end. -/
def AL (X : MX) : Nat → Prop := fun q => X.2.2.2.2.1.heap.size ≤ q
def KX (b Ln : Nat) (xs : Nat → Int32) (X : MX) : Prop := match X with
  | (_, _, _, _, s, _, _, _, _, _, _) => va_X b Ln xs s s.heap ∧ b < s.heap.size
def EL (g g2 : GC) (r : Int32) (S' S2' : Mem) (X : MX) : Prop := ∀ cn : Nat, cn ≤ 648415 → ∀ (L : List (Nat × Value)) (x : Int32) (S S2 : Mem), some (x, S, S2) = some (r, S', S2') → LQ X (AL X) 8 cn (pW2 g g2 S S2) L 291 [.int x]
def PCc (b Ln : Nat) (xs : Nat → Int32) (av : List Value) (sz : Nat) : Array Value → State → Prop := va_Pc av (fun U => U.heap.size = sz ∧ va_X b Ln xs U U.heap ∧ b < sz ∧ ∀ t ∈ NW, va_Nw t U)
theorem pcc_blind {b Ln : Nat} {xs : Nat → Int32} {av : List Value} {sz : Nat} : FrameBlind (PCc b Ln xs av sz) := by
  intro a U f mk h
  obtain ⟨h1, h2, h3, h4, h5⟩ := h
  exact ⟨h1, h2, va_X.moved (u := U) (U := U.calling f mk a) (Vm.Alike.refl U.vm) h3, h4, nw_calling h5⟩
def ctC (y : MethodName) (cc : ByteArray) (nL : Nat) (rm : Room) (b Ln : Nat) (xs : Nat → Int32) (av : List Value) (r : Int32) : Prop :=
  ∀ (l : Launch) (sz : Nat), Met l y (.code y cc nL (some .int) :: GW) rm (PCc b Ln xs av sz) (Qo (some (.int r)) (fun _ => True) (fun q => sz ≤ q)) 0 0 (fun q => sz ≤ q)
abbrev rl_cell : Room := { frames := 0, cells := 0, slots := 0, locals := 0 }
theorem c_L_cell (xs : Nat → Int32) (Ln : Nat) (x : Int32) {b : Nat} {r : Int32} (h : f_L_cell xs Ln x = some r) : ctC yL_cell cL_cell 2 rl_cell b Ln xs [.ref b, .int x] r := by
  intro l sz
  refine Met.ofW (cc := cL_cell) (maxL := 2) (ret := some .int) (by decide +kernel) rfl ?_
  intro p e s m args below meth c s₁ B hml hv
  obtain ⟨rfl, rfl, hX, hbl, hN⟩ := hv
  have hown : s.vm.findClass RL = some m.cls := findClass_of_methodNamed B.named
  have hts : ∀ t ∈ GW, t.before ([.ref b, .int x] : List Value).toArray s = true := fun t ht => atoms_spec (ws := .code yL_cell cL_cell 2 (some .int) :: GW) B.pre t (List.mem_cons_of_mem _ ht)
  have hl := lv_entry [.ref b, .int x] (n := 2) (Nat.le_of_ble_eq_true rfl)
  rw [lg_entry_eq]
  have hl : lv_has _ 2 [(0, .ref b), (1, .int x)] := hl
  generalize hXe : ((p, l, e, rl_cell, s, m, ([.ref b, .int x] : List Value).toArray, below, meth, c, MQ below (Qo (some (.int r)) (fun _ => True) (fun q => s.heap.size ≤ q)) ([.ref b, .int x] : List Value).toArray s 0 0 (fun q => s.heap.size ≤ q)) : MX) = X
  have h0 : LX RL cL_cell 2 rl_cell X := by
    rw [← hXe]
    exact ⟨B.exec, B.bytes, hml, hown, hts, hN, B.notSynchronized, rfl⟩
  have hret : ∀ {pc : Nat} {L : List (Nat × Value)} {x : Int32}, decode cL_cell pc = .ok (.ireturn, 1) → x = r → LV X (AL X) 2 0 0 (fun _ => True) L pc [.int x] := by
    intro pc L x hd hx
    rw [← hXe]
    subst hx
    intro H locs ls hP hS hl
    exact W.iret B.exec B.bytes B.returns (fun t ht hW => ⟨⟨rfl, trivial⟩, hS.F ht⟩) hS.2.2 hd B.notSynchronized
  have hlen : ∀ {pc pc' : Nat} {L : List (Nat × Value)} {st : List Value}, decode cL_cell pc = .ok (.arraylength, 1) → pc + 1 = pc' → LV X (AL X) 2 0 0 (fun _ => True) L pc' (.int (Int32.ofNat Ln) :: st) → LV X (AL X) 2 0 0 (fun _ => True) L pc (.ref b :: st) := by
    intro pc pc' L st hd he k
    rw [← hXe] at k ⊢
    subst he
    intro H locs ls hP hS hl
    exact va_slen B.exec B.bytes hX hbl (Nat.not_le.mpr hbl) hS hd (k H locs ls hP hS hl)
  have hld : ∀ {pc pc' : Nat} {L : List (Nat × Value)} {st : List Value} {i : Int32}, inb i Ln = true → decode cL_cell pc = .ok (.iaload, 1) → pc + 1 = pc' → LV X (AL X) 2 0 0 (fun _ => True) L pc' (.int (xs i.toNatClampNeg) :: st) → LV X (AL X) 2 0 0 (fun _ => True) L pc (.int i :: .ref b :: st) := by
    intro pc pc' L st i hi hd he k
    rw [← hXe] at k ⊢
    subst he
    intro H locs ls hP hS hl
    exact va_sld B.exec B.bytes hX hbl (Nat.not_le.mpr hbl) hS (inb_in hi) hd (k H locs ls hP hS hl)
  have hmain : LV X (AL X) 2 0 0 (fun _ => True) [(0, .ref b), (1, .int x)] 0 [] := by
    unfold f_L_cell at h
    refine l_iload_n (pc' := 1) h0 1 dL_cell_0 rfl rfl rfl ?_
    refine l_aload_n (pc' := 2) h0 0 dL_cell_1 rfl rfl rfl ?_
    refine hlen dL_cell_2 rfl ?_
    refine l_ic_ge (pt := 12) (pf := 6) h0 dL_cell_3 rfl rfl h (fun c h => ?_) (fun c h => ?_)
    · refine l_sipush (pc' := 15) (v := 7919) h0 dL_cell_12 (by decide +kernel) rfl ?_
      refine l_iload_n (pc' := 16) h0 1 dL_cell_15 rfl rfl rfl ?_
      refine l_sipush (pc' := 19) (v := 449) h0 dL_cell_16 (by decide +kernel) rfl ?_
      refine l_iadd (pc' := 20) h0 dL_cell_19 rfl ?_
      refine l_imul (pc' := 21) h0 dL_cell_20 rfl ?_
      refine l_iload_n (pc' := 22) h0 1 dL_cell_21 rfl rfl rfl ?_
      refine l_sipush (pc' := 25) (v := 2741) h0 dL_cell_22 (by decide +kernel) rfl ?_
      refine l_iadd (pc' := 26) h0 dL_cell_25 rfl ?_
      refine l_imul (pc' := 27) h0 dL_cell_26 rfl ?_
      exact hret dL_cell_27 (Option.some.inj h)
    · refine l_aload_n (pc' := 7) h0 0 dL_cell_6 rfl rfl rfl ?_
      refine l_iload_n (pc' := 8) h0 1 dL_cell_7 rfl rfl rfl ?_
      obtain ⟨hi, h⟩ := gd_some h
      refine hld (pc' := 9) hi dL_cell_8 rfl ?_
      refine l_goto (pc' := 27) h0 dL_cell_9 rfl ?_
      exact hret dL_cell_27 (Option.some.inj h)
  rw [← hXe] at hmain
  exact hmain s.heap [] _ trivial va_S.rf hl
theorem s_cell {nL : Nat} {cc : ByteArray} {rm : Room} {X : MX} {cn : Nat} {L : List (Nat × Value)} {pc pc' : Nat} {st : List Value} {g g2 : GC} {b Ln : Nat} {xs : Nat → Int32} {S S2 : Mem} {idx maxL n : Nat} {y : MethodName} {bytes : ByteArray} {rc : Room} {r : Int32} (hl : Cond.methodLink RL idx y ∈ GW) (hi : Cond.static y ∈ GW) (hc : Cond.code y bytes maxL (some .int) ∈ GW) (hini : Cond.initialized y.cls ∈ GW) (hd : plainY y n) (As rest : List Value) (h0 : LX RL cc nL rm X) (hX : KX b Ln xs X) (hM : ctC y bytes maxL rc b Ln xs As r) (hst : st = As.reverse ++ rest) (hn : As.length = n) (hdg : decode cc pc = .ok (.invokestatic idx, 3)) (e : pc + 3 = pc') (hW : (rest.map fun v => v.category).sum ≤ 8) (hR : rc.cells = 0 ∧ rc.slots = 0 ∧ rc.frames + 1 ≤ rm.frames ∧ 8 + (maxL + 11) + rc.locals ≤ rm.locals) (hcs : cn ≤ rm.cells ∧ 6 * cn ≤ rm.slots)
    (kk : LQ X (AL X) nL cn (pW2 g g2 S S2) L pc' (.int r :: rest)) : LQ X (AL X) nL cn (pW2 g g2 S S2) L pc st := by
  obtain ⟨p, l, en, R, s, m, args, below, meth, c, Q⟩ := X
  obtain ⟨hx, hb, hml, hown, hts, hN, hlk', rfl⟩ := h0
  obtain ⟨hX, hbl⟩ := hX
  subst e
  subst hst
  intro H locs ls hPH hS hls
  have hX1 : va_X b Ln xs s H := va_X.kept hX (hS.2.1 b hbl (Nat.not_le.mpr hbl))
  have hpre : ∀ U : State, U.heap = H → s.WarmedH U.vm → PCc b Ln xs As H.size As.toArray U := fun U hU hW => ⟨rfl, by rw [hU], by rw [hU]; exact va_X.moved hW.alike hX1, Nat.lt_of_lt_of_le hbl hS.1, nw_warm hW hN⟩
  have hrun := va_runS (As := As) (rest := rest) (p := p) (e := en) (below := below) (meth := meth) (locs := locs) (cells := cn) (slots := 6 * cn) (g := F0 m pc ls (As.reverse ++ rest)) ⟨hx, hb, hml, hown, hts⟩ (hM l H.size) ⟨callB_of n hts (goodGW hc) rfl hR.1 hR.2.1 (hts _ hini) (hts _ hl) hd ⟨hR.2.2.1, hR.2.2.2⟩, hts _ hi⟩ ⟨pcc_blind, hpre⟩ rfl hn hls.1 rfl (lv_room hW) hdg ⟨hcs.1, hcs.2⟩
  intro T hT X
  obtain ⟨v, st₀, t, T', Lo, h0, X', hL, e1, e2, ⟨⟨hv, -⟩, hz, hk1⟩, st⟩ := hrun T hT X
  cases hv
  rw [h0] at hz hk1
  have hk2 : ∀ q : Nat, q < H.size → T'.heap[q]? = H[q]? := fun q hq => by rw [e1]; exact hk1 q hq (Nat.not_le.mpr hq)
  have hAA : ∀ q, H.size ≤ q → s.heap.size ≤ q := fun q h => Nat.le_trans hS.1 h
  obtain ⟨t2, a1, b1⟩ := kk T'.heap (locs ++ Lo) ls ⟨hp_keep hPH.1 hk2, hp_keep hPH.2 hk2⟩
    ⟨Nat.le_trans hS.1 (by rw [e1]; exact hz), fun q h1 h2 => (hk2 q (Nat.lt_of_lt_of_le h1 hS.1)).trans (hS.2.1 q h1 h2), fun q hq => by
      rcases List.mem_append.mp hq with h | h
      · exact hS.2.2 q h
      · exact hAA _ (hL q h)⟩ hls T' rfl X'
  exact ⟨t2, st t2 a1, b1⟩
