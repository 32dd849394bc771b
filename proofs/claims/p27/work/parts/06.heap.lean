/-! Ends, fields, arrays and calls over GV. -/
section RE
variable {own : String} {cc : ByteArray} {nL : Nat} {rm : Room} {X : MX} {w : WX} {S S' : Mem} {L : List (Nat × Value)} {pc : Nat}
theorem r_iret (h0 : CX own cc nL rm X w) {x r : Int32} (hE : EN (some .int) (some (.int r)) S' X w) (hdg : decode cc pc = .ok (.ireturn, 1)) (h : some (x, S) = some (r, S')) : GV X w nL 0 0 S L pc [.int x] := by
  obtain ⟨p, l, en, R, s, m, args, below, meth, c, Q⟩ := X
  obtain ⟨hx, hb, -, -, -, -, hlk, -⟩ := h0
  obtain ⟨hr, hQ⟩ := hE
  cases h
  subst hQ
  intro H locs ls hP hS hl
  exact W.iret hx hb hr (fun t ht hW => ⟨⟨rfl, by rw [ht]; exact hP⟩, hS.F ht⟩) hS.2.2 hdg hlk
theorem r_iretR (h0 : CX own cc nL rm X w) {x r : Int32} (hE : EN (some .int) (some (.int r)) S X w) (hdg : decode cc pc = .ok (.ireturn, 1)) (h : some x = some r) : GV X w nL 0 0 S L pc [.int x] := r_iret h0 hE hdg (by rw [Option.some.inj h])
theorem W_zretN {p : Program} {l : Launch} {e : Env} {R : Room} {s : State} {m : MethodId} {args : Array Value} {below : List Frame} {meth : Method} {c : Code} {H : Heap} {locs : List Loc} {cells slots : Nat} {cc : ByteArray} {Qc : Array Value → State → Outcome → State → Prop} {free : Addr → Prop} {v v' : Int32} {ty : FieldType} (hexec : p.tables.exec = Jvm.exec) (hb : c.code = cc) (hr : meth.sig.returnType = some ty) (hn : narrow ty (.int v) = .int v')
    (hq : ∀ t : State, t.heap = H → s.WarmedH t.vm → Qc args s (.returned (some (.int v'))) t) (hf : ∀ q ∈ locs, free q.base)
    {pc : Nat} {ls : Array Slot} (hdg : decode cc pc = .ok (.ireturn, 1)) (hlocks : meth.locks = false) : W p l e R s m args below meth c H locs cells slots (MQ below Qc args s cells slots free) (F0 m pc ls [.int v]) := by
  intro T hT X
  have hlocks : meth.locks = false := hlocks
  obtain ⟨fs, hret, hrun, hended, hW, hframe⟩ := X.leave (v := some (.int v')) (fun h => by rw [hr] at h; cases h)
  have hmeth' : T.vm.method? m = some meth := X.method'
  refine ⟨T.setFrames fs, ?_, .returned (some (.int v')), hrun, hended, hq _ hT hW, locs, ⟨⟨_, rfl⟩, hW, hframe⟩, hf⟩
  jvm_step X.here [X.here.top, hexec, hb, hdg, hmeth', hr, hn]
  (try refine ⟨rfl, ?_⟩); (try refine ⟨rfl, ?_⟩)
  first | (intro acts; rw [hret _ acts rfl rfl rfl]) | rw [hret _ _ rfl rfl rfl]
  exact Steps.refl _
theorem r_zret (h0 : CX own cc nL rm X w) {x r : Int32} (hE : EN (some .boolean) (some (.int r)) S' X w) (hdg : decode cc pc = .ok (.ireturn, 1)) (h : some (nb x, S) = some (r, S')) : GV X w nL 0 0 S L pc [.int x] := by
  obtain ⟨p, l, en, R, s, m, args, below, meth, c, Q⟩ := X
  obtain ⟨hx, hb, -, -, -, -, hlk, -⟩ := h0
  obtain ⟨hr, hQ⟩ := hE
  cases h
  subst hQ
  intro H locs ls hP hS hl
  exact W_zretN hx hb hr rfl (fun t ht hW => ⟨⟨rfl, by rw [ht]; exact hP⟩, hS.F ht⟩) hS.2.2 hdg hlk
theorem r_zretR (h0 : CX own cc nL rm X w) {x r : Int32} (hE : EN (some .boolean) (some (.int r)) S X w) (hdg : decode cc pc = .ok (.ireturn, 1)) (h : some (nb x) = some r) : GV X w nL 0 0 S L pc [.int x] := r_zret h0 hE hdg (by rw [Option.some.inj h])
theorem r_vret (h0 : CX own cc nL rm X w) (hE : EN none none S' X w) (hdg : decode cc pc = .ok (.return_, 1)) (h : some ((), S) = some ((), S')) : GV X w nL 0 0 S L pc [] := by
  obtain ⟨p, l, en, R, s, m, args, below, meth, c, Q⟩ := X
  obtain ⟨hx, hb, -, -, -, -, hlk, -⟩ := h0
  obtain ⟨hr, hQ⟩ := hE
  cases h
  subst hQ
  intro H locs ls hP hS hl
  exact W.vret hx hb hr (fun t ht hW => ⟨⟨rfl, by rw [ht]; exact hP⟩, hS.F ht⟩) hS.2.2 hdg hlk
/-- an answer that is one of the world's objects, told by its number -/
theorem r_aretR (h0 : CX own cc nL rm X w) {C : String} {ck x r : Nat} (hE : EN (some (.object C)) (some (.ref (wA w ck r))) S X w) (hdg : decode cc pc = .ok (.areturn, 1)) (h : some x = some r) : GV X w nL 0 0 S L pc [.ref (wA w ck x)] := by
  obtain ⟨p, l, en, R, s, m, args, below, meth, c, Q⟩ := X
  obtain ⟨hx, hb, -, -, -, -, hlk, -⟩ := h0
  obtain ⟨hr, hQ⟩ := hE
  cases h
  subst hQ
  intro H locs ls hP hS hl
  exact W.aret hx hb hr (Or.inl ⟨C, rfl⟩) (Or.inr ⟨_, rfl⟩) (fun t ht hW => ⟨⟨rfl, by rw [ht]; exact hP⟩, hS.F ht⟩) hS.2.2 hdg hlk
end RE
section RF
variable {own : String} {cc : ByteArray} {nL : Nat} {rm : Room} {X : MX} {w : WX} {cn sn : Nat} {S S' : Mem} {L : List (Nat × Value)} {pc pc' : Nat} {st : List Value}
/-- getfield, by the class's own entry or by a nest mate's -/
theorem r_get (h0 : CX own cc nL rm X w) {ck k ci n idx : Nat} {C ref : String} {T : u_T} {fs : List Value} {v : Value} (hk : k < wN w ck) (he : wCe w (S.1 ck k) (S.2 ck k) ck k = .inr (ci, fs)) (hc : (wCl w)[ci]? = some (C, T, n)) (hin : ∀ t ∈ u_ws C T n, t ∈ GW) (j : Nat) (hj : j < n) (hlink : Cond.fieldLink own idx ref (T j).2.1 (T j).2.2.1 ∈ GW) (href : ref = (T j).1) (hv : fs[j]? = some v) (hdg : decode cc pc = .ok (.getfield idx, 3)) (e : pc + 3 = pc')
    (kk : GV X w nL cn sn S L pc' (v :: st)) : GV X w nL cn sn S L pc (.ref (wA w ck k) :: st) := by
  obtain ⟨p, l, en, R, s, m, args, below, meth, c, Q⟩ := X
  obtain ⟨hx, hb, -, ho, ht, hK, -⟩ := h0
  subst e
  subst href
  intro H locs ls hP hS hl
  exact va_get (D := wD w) hx hb ht hin ho hK (hp_one hP hk he) 0 rfl hc j hj (ht _ hlink) (fun _ h9 => h9) hv hdg (kk H locs ls hP hS hl)
theorem r_getN (h0 : CX own cc nL rm X w) {ck k ci n idx : Nat} {C ref host : String} {T : u_T} {fs : List Value} {v : Value} (hk : k < wN w ck) (he : wCe w (S.1 ck k) (S.2 ck k) ck k = .inr (ci, fs)) (hc : (wCl w)[ci]? = some (C, T, n)) (hin : ∀ t ∈ u_ws C T n, t ∈ GW) (j : Nat) (hj : j < n) (hlink : Cond.fieldLinkNest own idx ref (T j).2.1 (T j).2.2.1 host ∈ NW) (href : ref = (T j).1) (hv : fs[j]? = some v) (hdg : decode cc pc = .ok (.getfield idx, 3)) (e : pc + 3 = pc')
    (kk : GV X w nL cn sn S L pc' (v :: st)) : GV X w nL cn sn S L pc (.ref (wA w ck k) :: st) := by
  obtain ⟨p, l, en, R, s, m, args, below, meth, c, Q⟩ := X
  obtain ⟨hx, hb, -, ho, ht, hK, -, -, hN, -⟩ := h0
  subst e
  subst href
  intro H locs ls hP hS hl
  exact va_getN (D := wD w) hx hb ht hin ho hK (hp_one hP hk he) 0 rfl hc j hj (va_Nw.use rfl (hN _ hlink)) (fun _ h9 => h9) hv hdg (kk H locs ls hP hS hl)
/-- putfield: the world's memory moves from S to S' in this one object -/
theorem r_put (h0 : CX own cc nL rm X w) {ck k ci n idx : Nat} {C ref : String} {T : u_T} {fs : List Value} {v : Value} (hk : k < wN w ck) (he : wCe w (S.1 ck k) (S.2 ck k) ck k = .inr (ci, fs)) (hc : (wCl w)[ci]? = some (C, T, n)) (hin : ∀ t ∈ u_ws C T n, t ∈ GW) (ty0 : Nat → FieldType) (hty : ∀ k, k < n → parseFieldDescriptor (T k).2.2.1 = some (ty0 k)) (hnm : ∀ a, a < n → ∀ b, b < n → a ≠ b → (T a).2.1 ≠ (T b).2.1) (j : Nat) (hj : j < n) (hlink : Cond.fieldLink own idx ref (T j).2.1 (T j).2.2.1 ∈ GW) (href : ref = (T j).1) (hfin : (T j).2.2.2 = false) (hn : narrow (ty0 j) v = v) (hfit : fits (ty0 j) v = true) (hl : j < fs.length) (hoff : ∀ c' k' : Nat, ¬ (c' = ck ∧ k' = k) → S'.1 c' k' = S.1 c' k' ∧ S'.2 c' k' = S.2 c' k') (hon : wCe w (S'.1 ck k) (S'.2 ck k) ck k = .inr (ci, fs.set j v)) (hdg : decode cc pc = .ok (.putfield idx, 3)) (e : pc + 3 = pc')
    (kk : GV X w nL cn sn S' L pc' st) : GV X w nL cn sn S L pc (v :: .ref (wA w ck k) :: st) := by
  obtain ⟨p, l, en, R, s, m, args, below, meth, c, Q⟩ := X
  obtain ⟨hx, hb, -, ho, hts, hK, -, hw, -⟩ := h0
  subst e
  subst href
  intro H locs ls hP hS0 hl0
  have hap := va_apart (own := own) hts hin ty0 hty hnm hK hc
  have hP0 := hP ck k hk
  rw [he] at hP0
  obtain ⟨r, h1, cell, q1, q2, q3, q4⟩ := hP0
  have hr : r = (C, T, n) := Option.some.inj (h1.symm.trans hc)
  subst hr
  obtain ⟨hS, hfc, kC, hkC, hkind⟩ := hK.1 ci _ hc
  obtain ⟨cf, kf, fi, f, hi, hsl⟩ := hS j hj
  have hlay := hts _ (hin _ (u_in_lay hj))
  unfold u_lay at hlay
  rw [if_neg (by rw [hfin]; decide)] at hlay
  have hst := (u_facts hfc hkC (u_lays hts hin hj) hi).1
  have h6 := u_store hfc hkC hkind hlay hi (hty j hj) hn hfit
  refine W.putK hx hb (f := f) ⟨ho, hts _ hlink, ⟨_, _, _, hi⟩, hst⟩ (by rw [q2]; exact h6) q1 q3 (by rw [hsl]; exact k2_hasslot (q4 j hj)) rfl rfl hdg fun H' e1 e2 e3 => ?_
  rw [hsl] at e1 ⊢
  exact kk H' _ ls (hp_put hw hP hk hoff (by rw [hon]; exact ⟨_, hc, t_OB.to (V := updV (vp_V fs) j v) ⟨_, e1, q2, q3, t_set q4 hap hj v⟩ (fun i _ => vp_updV_set hl v i)⟩) e3) (hS0.put e2 e3 (Or.inl ⟨ck, k, hk, rfl⟩)) hl0
theorem r_putN (h0 : CX own cc nL rm X w) {ck k ci n idx : Nat} {C ref host : String} {T : u_T} {fs : List Value} {v : Value} (hk : k < wN w ck) (he : wCe w (S.1 ck k) (S.2 ck k) ck k = .inr (ci, fs)) (hc : (wCl w)[ci]? = some (C, T, n)) (hin : ∀ t ∈ u_ws C T n, t ∈ GW) (ty0 : Nat → FieldType) (hty : ∀ k, k < n → parseFieldDescriptor (T k).2.2.1 = some (ty0 k)) (hnm : ∀ a, a < n → ∀ b, b < n → a ≠ b → (T a).2.1 ≠ (T b).2.1) (j : Nat) (hj : j < n) (hlink : Cond.fieldLinkNest own idx ref (T j).2.1 (T j).2.2.1 host ∈ NW) (href : ref = (T j).1) (hfin : (T j).2.2.2 = false) (hn : narrow (ty0 j) v = v) (hfit : fits (ty0 j) v = true) (hl : j < fs.length) (hoff : ∀ c' k' : Nat, ¬ (c' = ck ∧ k' = k) → S'.1 c' k' = S.1 c' k' ∧ S'.2 c' k' = S.2 c' k') (hon : wCe w (S'.1 ck k) (S'.2 ck k) ck k = .inr (ci, fs.set j v)) (hdg : decode cc pc = .ok (.putfield idx, 3)) (e : pc + 3 = pc')
    (kk : GV X w nL cn sn S' L pc' st) : GV X w nL cn sn S L pc (v :: .ref (wA w ck k) :: st) := by
  obtain ⟨p, l, en, R, s, m, args, below, meth, c, Q⟩ := X
  obtain ⟨hx, hb, -, ho, hts, hK, -, hw, hN, -⟩ := h0
  subst e
  subst href
  intro H locs ls hP hS0 hl0
  have hap := va_apart (own := own) hts hin ty0 hty hnm hK hc
  have hP0 := hP ck k hk
  rw [he] at hP0
  obtain ⟨r, h1, cell, q1, q2, q3, q4⟩ := hP0
  have hr : r = (C, T, n) := Option.some.inj (h1.symm.trans hc)
  subst hr
  obtain ⟨hS, hfc, kC, hkC, hkind⟩ := hK.1 ci _ hc
  obtain ⟨cf, kf, fi, f, hi, hsl⟩ := hS j hj
  have hlay := hts _ (hin _ (u_in_lay hj))
  unfold u_lay at hlay
  rw [if_neg (by rw [hfin]; decide)] at hlay
  have hst := (u_facts hfc hkC (u_lays hts hin hj) hi).1
  have h6 := u_store hfc hkC hkind hlay hi (hty j hj) hn hfit
  refine va_WputK hx hb (f := f) ho (va_Nw.use rfl (hN _ hlink)) hi hst (by rw [q2]; exact h6) q1 q3 (by rw [hsl]; exact k2_hasslot (q4 j hj)) rfl rfl hdg fun H' e1 e2 e3 => ?_
  rw [hsl] at e1 ⊢
  exact kk H' _ ls (hp_put hw hP hk hoff (by rw [hon]; exact ⟨_, hc, t_OB.to (V := updV (vp_V fs) j v) ⟨_, e1, q2, q3, t_set q4 hap hj v⟩ (fun i _ => vp_updV_set hl v i)⟩) e3) (hS0.put e2 e3 (Or.inl ⟨ck, k, hk, rfl⟩)) hl0
end RF
section RA
variable {own : String} {cc : ByteArray} {nL : Nat} {rm : Room} {X : MX} {w : WX} {cn sn : Nat} {S : Mem} {L : List (Nat × Value)} {pc pc' : Nat} {st : List Value} {α : Type} {A : Option α} {z : α}
theorem r_alen (h0 : CX own cc nL rm X w) {ck k : Nat} (t0 : Nat) {cA : ClassId} {x : vp_A} {ty : FieldType} {v : Int32} (hk : k < wN w ck) (he : wCe w (S.1 ck k) (S.2 ck k) ck k = .inl (cA, x)) (ht : (wTy w)[t0]? = some (cA, ty)) (hv : Int32.ofNat x.1 = v) (hdg : decode cc pc = .ok (.arraylength, 1)) (e : pc + 1 = pc')
    (kk : GV X w nL cn sn S L pc' (.int v :: st)) : GV X w nL cn sn S L pc (.ref (wA w ck k) :: st) := by
  obtain ⟨p, l, en, R, s, m, args, below, meth, c, Q⟩ := X
  obtain ⟨hx, hb, -, ho, hts, hK, -, hw, hN, -⟩ := h0
  subst e
  intro H locs ls hP hS hl
  exact va_alen (D := wD w) hx hb hK (hp_one hP hk he) 0 t0 rfl ht hv hdg (kk H locs ls hP hS hl)
theorem r_iald (h0 : CX own cc nL rm X w) {ck k : Nat} (t0 : Nat) {cA : ClassId} {n : Nat} (hk : k < wN w ck) (he : wCe w (S.1 ck k) (S.2 ck k) ck k = .inl (cA, n, .inl (S.1 ck k))) (ht : (wTy w)[t0]? = some (cA, .int)) {i : Int32} (hdg : decode cc pc = .ok (.iaload, 1)) (e : pc + 1 = pc') (h : gd (inb i n) A = some z)
    (kk : A = some z → GV X w nL cn sn S L pc' (.int (S.1 ck k i.toNatClampNeg) :: st)) : GV X w nL cn sn S L pc (.int i :: .ref (wA w ck k) :: st) := by
  obtain ⟨p, l, en, R, s, m, args, below, meth, c, Q⟩ := X
  obtain ⟨hx, hb, -, ho, hts, hK, -, hw, hN, -⟩ := h0
  obtain ⟨hin, hA⟩ := gd_some h
  subst e
  intro H locs ls hP hS hl
  exact va_iald (D := wD w) hx hb hK (hp_one hP hk he) 0 t0 rfl ht (inb_in hin) hdg (kk hA H locs ls hP hS hl)
theorem r_zald (h0 : CX own cc nL rm X w) {ck k : Nat} (t0 : Nat) {cA : ClassId} {n : Nat} (hk : k < wN w ck) (he : wCe w (S.1 ck k) (S.2 ck k) ck k = .inl (cA, n, .inl (S.1 ck k))) (ht : (wTy w)[t0]? = some (cA, .boolean)) {i : Int32} (hdg : decode cc pc = .ok (.baload, 1)) (e : pc + 1 = pc') (h : gd (inb i n) A = some z)
    (kk : A = some z → GV X w nL cn sn S L pc' (.int (S.1 ck k i.toNatClampNeg) :: st)) : GV X w nL cn sn S L pc (.int i :: .ref (wA w ck k) :: st) := by
  obtain ⟨p, l, en, R, s, m, args, below, meth, c, Q⟩ := X
  obtain ⟨hx, hb, -, ho, hts, hK, -, hw, hN, -⟩ := h0
  obtain ⟨hin, hA⟩ := gd_some h
  subst e
  intro H locs ls hP hS hl
  exact va_zald (D := wD w) hx hb hK (hp_one hP hk he) 0 t0 rfl ht (inb_in hin) hdg (kk hA H locs ls hP hS hl)
theorem r_lald (h0 : CX own cc nL rm X w) {ck k : Nat} (t0 : Nat) {cA : ClassId} {n : Nat} (hk : k < wN w ck) (he : wCe w (S.1 ck k) (S.2 ck k) ck k = .inl (cA, n, .inr (.inl (S.2 ck k)))) (ht : (wTy w)[t0]? = some (cA, .long)) {i : Int32} (hdg : decode cc pc = .ok (.laload, 1)) (e : pc + 1 = pc') (h : gd (inb i n) A = some z)
    (kk : A = some z → GV X w nL cn sn S L pc' (.long (S.2 ck k i.toNatClampNeg) :: st)) : GV X w nL cn sn S L pc (.int i :: .ref (wA w ck k) :: st) := by
  obtain ⟨p, l, en, R, s, m, args, below, meth, c, Q⟩ := X
  obtain ⟨hx, hb, -, ho, hts, hK, -, hw, hN, -⟩ := h0
  obtain ⟨hin, hA⟩ := gd_some h
  subst e
  intro H locs ls hP hS hl
  exact va_lald (D := wD w) hx hb hK (hp_one hP hk he) 0 t0 rfl ht (inb_in hin) hdg (kk hA H locs ls hP hS hl)
/-- an array of references to the world's objects of kind cq, all there -/
theorem r_aald (h0 : CX own cc nL rm X w) {ck k cq : Nat} (t0 : Nat) {cA : ClassId} {C : String} {n : Nat} (hk : k < wN w ck) (he : wCe w (S.1 ck k) (S.2 ck k) ck k = .inl (cA, n, .inr (.inr (.inr (.inr (fun j => some (wA w cq j))))))) (ht : (wTy w)[t0]? = some (cA, .object C)) {i : Int32} (hdg : decode cc pc = .ok (.aaload, 1)) (e : pc + 1 = pc') (h : gd (inb i n) A = some z)
    (kk : A = some z → inb i n = true → GV X w nL cn sn S L pc' (.ref (wA w cq i.toNatClampNeg) :: st)) : GV X w nL cn sn S L pc (.int i :: .ref (wA w ck k) :: st) := by
  obtain ⟨p, l, en, R, s, m, args, below, meth, c, Q⟩ := X
  obtain ⟨hx, hb, -, ho, hts, hK, -, hw, hN, -⟩ := h0
  obtain ⟨hin, hA⟩ := gd_some h
  subst e
  intro H locs ls hP hS hl
  exact va_aldq (D := wD w) hx hb hK (hp_one hP hk he) 0 t0 rfl ht (inb_in hin) hdg (kk hA hin H locs ls hP hS hl)
theorem r_iast (h0 : CX own cc nL rm X w) {ck k : Nat} (t0 : Nat) {cA : ClassId} {n : Nat} (hk : k < wN w ck) (he : ∀ (f : Nat → Int32) (g : Nat → Int64), wCe w f g ck k = .inl (cA, n, .inl f)) (ht : (wTy w)[t0]? = some (cA, .int)) {i x : Int32} (hdg : decode cc pc = .ok (.iastore, 1)) (e : pc + 1 = pc') (h : gd (inb i n) A = some z)
    (kk : A = some z → GV X w nL cn sn (wI S ck k i.toNatClampNeg x) L pc' st) : GV X w nL cn sn S L pc (.int x :: .int i :: .ref (wA w ck k) :: st) := by
  obtain ⟨p, l, en, R, s, m, args, below, meth, c, Q⟩ := X
  obtain ⟨hx, hb, -, ho, hts, hK, -, hw, hN, -⟩ := h0
  obtain ⟨hin, hA⟩ := gd_some h
  subst e
  intro H locs ls hP hS hl
  have hP0 := hP ck k hk
  rw [he] at hP0
  refine W.iast hx hb hP0 ((hK.2 t0 _ ht).1 n (fun j => .int (S.1 ck k j))) (fun q => by cases q) (by show ¬ (i < 0 ∨ (arrV _ _ _).slots.size ≤ _); rw [arrV_size]; exact inb_in hin) rfl rfl hdg fun H1 e z oq => ?_
  refine kk hA H1 _ ls (hp_put hw hP hk wI_off ?_ oq) (hS.put z oq (Or.inl ⟨ck, k, hk, rfl⟩)) hl
  rw [he, wI_on]
  show H1[_]? = some (vp_cell _ _)
  rw [e]
  rw [vp_cell_i, vp_cell_i, arrV_store]
  congr 2
  funext q
  by_cases hq : q = i.toNatClampNeg
  · subst hq
    simp [updV, upd]
  · simp [updV, upd, hq]
theorem r_zast (h0 : CX own cc nL rm X w) {ck k : Nat} (t0 : Nat) {cA : ClassId} {n : Nat} (hk : k < wN w ck) (he : ∀ (f : Nat → Int32) (g : Nat → Int64), wCe w f g ck k = .inl (cA, n, .inl f)) (ht : (wTy w)[t0]? = some (cA, .boolean)) {i x : Int32} (hdg : decode cc pc = .ok (.bastore, 1)) (e : pc + 1 = pc') (h : gd (inb i n) A = some z)
    (kk : A = some z → GV X w nL cn sn (wI S ck k i.toNatClampNeg (nb x)) L pc' st) : GV X w nL cn sn S L pc (.int x :: .int i :: .ref (wA w ck k) :: st) := by
  obtain ⟨p, l, en, R, s, m, args, below, meth, c, Q⟩ := X
  obtain ⟨hx, hb, -, ho, hts, hK, -, hw, hN, -⟩ := h0
  obtain ⟨hin, hA⟩ := gd_some h
  subst e
  intro H locs ls hP hS hl
  have hP0 := hP ck k hk
  rw [he] at hP0
  refine W.zast hx hb hP0 ((hK.2 t0 _ ht).1 n (fun j => .int (S.1 ck k j))) (fun q => by cases q) (by show ¬ (i < 0 ∨ (arrV _ _ _).slots.size ≤ _); rw [arrV_size]; exact inb_in hin) rfl rfl hdg fun H1 e z oq => ?_
  refine kk hA H1 _ ls (hp_put hw hP hk wI_off ?_ oq) (hS.put z oq (Or.inl ⟨ck, k, hk, rfl⟩)) hl
  rw [he, wI_on]
  show H1[_]? = some (vp_cell _ _)
  rw [e]
  rw [vp_cell_i, vp_cell_i, arrV_store]
  congr 2
  funext q
  by_cases hq : q = i.toNatClampNeg
  · subst hq
    simp [updV, upd, nb, narrow]
  · simp [updV, upd, hq]
theorem r_last (h0 : CX own cc nL rm X w) {ck k : Nat} (t0 : Nat) {cA : ClassId} {n : Nat} (hk : k < wN w ck) (he : ∀ (f : Nat → Int32) (g : Nat → Int64), wCe w f g ck k = .inl (cA, n, .inr (.inl g))) (ht : (wTy w)[t0]? = some (cA, .long)) {i : Int32} {x : Int64} (hdg : decode cc pc = .ok (.lastore, 1)) (e : pc + 1 = pc') (h : gd (inb i n) A = some z)
    (kk : A = some z → GV X w nL cn sn (wL S ck k i.toNatClampNeg x) L pc' st) : GV X w nL cn sn S L pc (.long x :: .int i :: .ref (wA w ck k) :: st) := by
  obtain ⟨p, l, en, R, s, m, args, below, meth, c, Q⟩ := X
  obtain ⟨hx, hb, -, ho, hts, hK, -, hw, hN, -⟩ := h0
  obtain ⟨hin, hA⟩ := gd_some h
  subst e
  intro H locs ls hP hS hl
  have hP0 := hP ck k hk
  rw [he] at hP0
  refine W.last hx hb hP0 ((hK.2 t0 _ ht).1 n (fun j => .long (S.2 ck k j))) (fun q => by cases q) (by show ¬ (i < 0 ∨ (arrV _ _ _).slots.size ≤ _); rw [arrV_size]; exact inb_in hin) rfl rfl hdg fun H1 e z oq => ?_
  refine kk hA H1 _ ls (hp_put hw hP hk wL_off ?_ oq) (hS.put z oq (Or.inl ⟨ck, k, hk, rfl⟩)) hl
  rw [he, wL_on]
  show H1[_]? = some (vp_cell _ _)
  rw [e]
  rw [vp_cell_l, vp_cell_l, arrV_store]
  congr 2
  funext q
  by_cases hq : q = i.toNatClampNeg
  · subst hq
    simp [updV, vp_updL]
  · simp [updV, vp_updL, hq]
end RA
section RC
variable {own : String} {cc : ByteArray} {nL : Nat} {rm : Room} {X : MX} {w : WX} {S S' : Mem} {L : List (Nat × Value)} {pc pc' : Nat} {st : List Value}
theorem run_go {p : Program} {l : Launch} {e : Env} {R : Room} {s : State} {m : MethodId} {args : Array Value} {below : List Frame} {meth : Method} {c : Code} {H : Heap} {locs : List Loc} {cells slots mc ms : Nat} {Q : State → Prop} {ls : Array Slot} {rest st0 : List Value} {a : Array Value} {A0 A1 : Nat → Prop} {H0 : Heap} {free : Addr → Prop} {o : Option Value} {B : Heap → Prop}
    (hr : va_Run p l e R s m args below meth c H locs cells slots mc ms (F0 m pc ls st0) rest (Qo o B A1 a) free) (hS : va_S A0 H0 H locs) (hA : ∀ q, q < H.size → A1 q → A0 q) (hf : ∀ q, free q → A0 q)
    (kk : ∀ (H1 : Heap) (locs1 : List Loc), B H1 → va_S A0 H0 H1 locs1 → W p l e R s m args below meth c H1 locs1 (cells + mc) (slots + ms) Q (F0 m (pc + 3) ls (o.toList ++ rest))) : W p l e R s m args below meth c H locs cells slots Q (F0 m pc ls st0) := by
  intro T hT X
  obtain ⟨v, st₀, t, T', L, h0, X', hL, e1, e2, ⟨⟨hv, hb⟩, hz, hk⟩, st⟩ := hr T hT X
  cases hv
  rw [h0] at hz hk
  obtain ⟨t2, a1, b1⟩ := kk T'.heap (locs ++ L) (by rw [e1]; exact hb)
    ⟨Nat.le_trans hS.1 (by rw [e1]; exact hz), fun q h1 h2 => by rw [e1, hk q (Nat.lt_of_lt_of_le h1 hS.1) (fun z => h2 (hA q (Nat.lt_of_lt_of_le h1 hS.1) z))]; exact hS.2.1 q h1 h2, fun q hq => by
      rcases List.mem_append.mp hq with h | h
      · exact hS.2.2 q h
      · exact hf _ (hL q h)⟩ T' rfl X'
  exact ⟨t2, st t2 a1, b1⟩
theorem AA_up {w : WX} {a b : Nat} (h : a ≤ b) : ∀ q, AA w b q → AA w a q := fun _ hq => hq.imp id (fun z => Nat.le_trans h z)
theorem pc_in {w : WX} {S : Mem} {s : State} {H : Heap} {av : List Value} (hP : hp w S H) (hK : va_K (wD w) (wCl w) (wTy w) s) (hN : ∀ t ∈ NW, va_Nw t s) (hw : wok w) : ∀ U : State, U.heap = H → s.WarmedH U.vm → PCx w av S H.size av.toArray U :=
  fun U hU hW => ⟨rfl, by rw [hU], by rw [hU]; exact hP, va_K.moved hW.alike hK, nw_warm hW hN, hw⟩
/-- THE CALLS of a callee under contract, by the entry idx of own's pool, told once an entry -/
def gcV (w : WX) (own : String) (idx ck : Nat) (y : MethodName) (bytes : ByteArray) (maxL : Nat) (ret : Option FieldType) (n : Nat) : Prop :=
  ∀ {cc : ByteArray} {nL : Nat} {rm rc : Room} {X : MX} {S S' : Mem} {L : List (Nat × Value)} {pc pc' k cn sn : Nat} {st st2 As rest : List Value} {o : Option Value}, CX own cc nL rm X w → k < wN w ck → ctN y bytes maxL ret rc w (.ref (wA w ck k) :: As) S o S' → st = As.reverse ++ .ref (wA w ck k) :: rest → As.length = n → decode cc pc = .ok (.invokevirtual idx, 3) → pc + 3 = pc' → (rest.map fun v => v.category).sum ≤ 8 → (rc.cells = 0 ∧ rc.slots = 0 ∧ rc.frames + 1 ≤ rm.frames ∧ 8 + (maxL + 11) + rc.locals ≤ rm.locals) → (cn ≤ rm.cells ∧ sn ≤ rm.slots) → o.toList ++ rest = st2 → GV X w nL cn sn S' L pc' st2 → GV X w nL cn sn S L pc st
def gcS (w : WX) (own : String) (idx : Nat) (y : MethodName) (bytes : ByteArray) (maxL : Nat) (ret : Option FieldType) (n : Nat) : Prop :=
  ∀ {cc : ByteArray} {nL : Nat} {rm rc : Room} {X : MX} {S S' : Mem} {L : List (Nat × Value)} {pc pc' cn sn : Nat} {st st2 As rest : List Value} {o : Option Value}, CX own cc nL rm X w → ctN y bytes maxL ret rc w As S o S' → st = As.reverse ++ rest → As.length = n → decode cc pc = .ok (.invokestatic idx, 3) → pc + 3 = pc' → (rest.map fun v => v.category).sum ≤ 8 → (rc.cells = 0 ∧ rc.slots = 0 ∧ rc.frames + 1 ≤ rm.frames ∧ 8 + (maxL + 11) + rc.locals ≤ rm.locals) → (cn ≤ rm.cells ∧ sn ≤ rm.slots) → o.toList ++ rest = st2 → GV X w nL cn sn S' L pc' st2 → GV X w nL cn sn S L pc st
def isObj (w : WX) (C : String) (ck : Nat) : Prop := ∃ (ci : Nat) (T : u_T) (n : Nat), (wCl w)[ci]? = some (C, T, n) ∧ ∀ (f : Nat → Int32) (g : Nat → Int64) (k : Nat), ∃ fs, wCe w f g ck k = .inr (ci, fs)
abbrev plainY (y : MethodName) (n : Nat) : Prop := y.cls ≠ "java/lang/invoke/MethodHandle" ∧ y.cls ≠ "java/lang/invoke/VarHandle" ∧ (parseMethodDescriptor y.desc).map (fun d => d.parameters.length) = some n
theorem grecv {w : WX} {C : String} {ck k : Nat} {S : Mem} {H : Heap} {s : State} (ho : isObj w C ck) (hP : hp w S H) (hK : va_K (wD w) (wCl w) (wTy w) s) (hk : k < wN w ck) : ∃ cellB : Cell, H[wA w ck k]? = some cellB ∧ cellB.vm.isStatics = false ∧ s.vm.findClass C = some cellB.cls := by
  obtain ⟨ci, T, n, hc, hf⟩ := ho
  obtain ⟨fs, he⟩ := hf (S.1 ck k) (S.2 ck k) k
  exact va_recv hK (hp_one hP hk he) hc (q0 := 0) rfl
theorem mkV {own C : String} {idx ck maxL n : Nat} {y : MethodName} {bytes : ByteArray} {ret : Option FieldType} (ho : isObj w C ck) (hl : Cond.methodLink own idx y ∈ GW) (hi : Cond.instanceMethod y ∈ GW) (hs : Cond.selects C y y ∈ GW) (hc : Cond.code y bytes maxL ret ∈ GW) (hini : Cond.initialized y.cls ∈ GW) (hd : plainY y n) : gcV w own idx ck y bytes maxL ret n := by
  intro cc nL rm rc X S S' L pc pc' k cn sn st st2 As rest o h0 hk hM hst hn hdg e hW hR hcs h2 kk
  obtain ⟨p, l, en, R, s, m, args, below, meth, c, Q⟩ := X
  obtain ⟨hx, hb, hml, hown, hts, hK, -, hw, hN, rfl⟩ := h0
  subst e
  subst hst
  subst h2
  intro H locs ls hP hS hls
  refine run_go (va_runV (As := As) (rest := rest) ⟨hx, hb, hml, hown, hts⟩ (hM l H.size) ⟨callB_of n hts (goodGW hc) rfl hR.1 hR.2.1 (hts _ hini) (hts _ hl) hd ⟨hR.2.2.1, hR.2.2.2⟩, hts _ hi, hts _ hs⟩ ⟨pc_blind, grecv ho hP hK hk, pc_in hP hK hN hw⟩ rfl hn hls.1 rfl (lv_room hW) hdg ⟨hcs.1, hcs.2⟩) hS (fun q _ h => AA_up hS.1 q h) (fun q h => AA_up hS.1 q h) (fun H1 locs1 hB hS1 => kk H1 locs1 ls hB hS1 hls)
theorem mkVN {own C host : String} {idx ck maxL n : Nat} {y : MethodName} {bytes : ByteArray} {ret : Option FieldType} (ho : isObj w C ck) (hl : Cond.methodLinkNest own idx y host ∈ NW) (hi : Cond.instanceMethod y ∈ GW) (hs : Cond.selects C y y ∈ GW) (hc : Cond.code y bytes maxL ret ∈ GW) (hini : Cond.initialized y.cls ∈ GW) (hd : plainY y n) : gcV w own idx ck y bytes maxL ret n := by
  intro cc nL rm rc X S S' L pc pc' k cn sn st st2 As rest o h0 hk hM hst hn hdg e hW hR hcs h2 kk
  obtain ⟨p, l, en, R, s, m, args, below, meth, c, Q⟩ := X
  obtain ⟨hx, hb, hml, hown, hts, hK, -, hw, hN, rfl⟩ := h0
  subst e
  subst hst
  subst h2
  intro H locs ls hP hS hls
  refine run_go (va_runVN (As := As) (rest := rest) ⟨hx, hb, hml, hown, hts⟩ (hM l H.size) ⟨va_cnB n hts (goodGW hc) rfl hR.1 hR.2.1 (hN _ hl) (hts _ hini) hd ⟨hR.2.2.1, hR.2.2.2⟩, hts _ hi, hts _ hs⟩ ⟨pc_blind, grecv ho hP hK hk, pc_in hP hK hN hw⟩ rfl hn hls.1 rfl (lv_room hW) hdg ⟨hcs.1, hcs.2⟩) hS (fun q _ h => AA_up hS.1 q h) (fun q h => AA_up hS.1 q h) (fun H1 locs1 hB hS1 => kk H1 locs1 ls hB hS1 hls)
theorem mkS {own : String} {idx maxL n : Nat} {y : MethodName} {bytes : ByteArray} {ret : Option FieldType} (hl : Cond.methodLink own idx y ∈ GW) (hi : Cond.static y ∈ GW) (hc : Cond.code y bytes maxL ret ∈ GW) (hini : Cond.initialized y.cls ∈ GW) (hd : plainY y n) : gcS w own idx y bytes maxL ret n := by
  intro cc nL rm rc X S S' L pc pc' cn sn st st2 As rest o h0 hM hst hn hdg e hW hR hcs h2 kk
  obtain ⟨p, l, en, R, s, m, args, below, meth, c, Q⟩ := X
  obtain ⟨hx, hb, hml, hown, hts, hK, -, hw, hN, rfl⟩ := h0
  subst e
  subst hst
  subst h2
  intro H locs ls hP hS hls
  refine run_go (va_runS (As := As) (rest := rest) ⟨hx, hb, hml, hown, hts⟩ (hM l H.size) ⟨callB_of n hts (goodGW hc) rfl hR.1 hR.2.1 (hts _ hini) (hts _ hl) hd ⟨hR.2.2.1, hR.2.2.2⟩, hts _ hi⟩ ⟨pc_blind, pc_in hP hK hN hw⟩ rfl hn hls.1 rfl (lv_room hW) hdg ⟨hcs.1, hcs.2⟩) hS (fun q _ h => AA_up hS.1 q h) (fun q h => AA_up hS.1 q h) (fun H1 locs1 hB hS1 => kk H1 locs1 ls hB hS1 hls)
theorem mkSN {own host : String} {idx maxL n : Nat} {y : MethodName} {bytes : ByteArray} {ret : Option FieldType} (hl : Cond.methodLinkNest own idx y host ∈ NW) (hi : Cond.static y ∈ GW) (hc : Cond.code y bytes maxL ret ∈ GW) (hini : Cond.initialized y.cls ∈ GW) (hd : plainY y n) : gcS w own idx y bytes maxL ret n := by
  intro cc nL rm rc X S S' L pc pc' cn sn st st2 As rest o h0 hM hst hn hdg e hW hR hcs h2 kk
  obtain ⟨p, l, en, R, s, m, args, below, meth, c, Q⟩ := X
  obtain ⟨hx, hb, hml, hown, hts, hK, -, hw, hN, rfl⟩ := h0
  subst e
  subst hst
  subst h2
  intro H locs ls hP hS hls
  refine run_go (va_runSN (As := As) (rest := rest) ⟨hx, hb, hml, hown, hts⟩ (hM l H.size) ⟨va_cnB n hts (goodGW hc) rfl hR.1 hR.2.1 (hN _ hl) (hts _ hini) hd ⟨hR.2.2.1, hR.2.2.2⟩, hts _ hi, trivial⟩ ⟨pc_blind, pc_in hP hK hN hw⟩ rfl hn hls.1 rfl (lv_room hW) hdg ⟨hcs.1, hcs.2⟩) hS (fun q _ h => AA_up hS.1 q h) (fun q h => AA_up hS.1 q h) (fun H1 locs1 hB hS1 => kk H1 locs1 ls hB hS1 hls)
theorem go_V {idx ck maxL n k cn sn : Nat} {cc bytes : ByteArray} {own : String} {y : MethodName} {ret : Option FieldType} {rm rc : Room} {st st2 : List Value} {o : Option Value} (hc : gcV w own idx ck y bytes maxL ret n) (As rest : List Value) (h0 : CX own cc nL rm X w) (hk : k < wN w ck) (hM : ctN y bytes maxL ret rc w (.ref (wA w ck k) :: As) S o S') (hst : st = As.reverse ++ .ref (wA w ck k) :: rest) (hn : As.length = n) (hdg : decode cc pc = .ok (.invokevirtual idx, 3)) (e : pc + 3 = pc') (hW : (rest.map fun v => v.category).sum ≤ 8) (hR : rc.cells = 0 ∧ rc.slots = 0 ∧ rc.frames + 1 ≤ rm.frames ∧ 8 + (maxL + 11) + rc.locals ≤ rm.locals) (hcs : cn ≤ rm.cells ∧ sn ≤ rm.slots) (h2 : o.toList ++ rest = st2) (kk : GV X w nL cn sn S' L pc' st2) : GV X w nL cn sn S L pc st := hc h0 hk hM hst hn hdg e hW hR hcs h2 kk
theorem go_S {idx maxL n cn sn : Nat} {cc bytes : ByteArray} {own : String} {y : MethodName} {ret : Option FieldType} {rm rc : Room} {st st2 : List Value} {o : Option Value} (hc : gcS w own idx y bytes maxL ret n) (As rest : List Value) (h0 : CX own cc nL rm X w) (hM : ctN y bytes maxL ret rc w As S o S') (hst : st = As.reverse ++ rest) (hn : As.length = n) (hdg : decode cc pc = .ok (.invokestatic idx, 3)) (e : pc + 3 = pc') (hW : (rest.map fun v => v.category).sum ≤ 8) (hR : rc.cells = 0 ∧ rc.slots = 0 ∧ rc.frames + 1 ≤ rm.frames ∧ 8 + (maxL + 11) + rc.locals ≤ rm.locals) (hcs : cn ≤ rm.cells ∧ sn ≤ rm.slots) (h2 : o.toList ++ rest = st2) (kk : GV X w nL cn sn S' L pc' st2) : GV X w nL cn sn S L pc st := hc h0 hM hst hn hdg e hW hR hcs h2 kk
/-- Math.max and Math.min of ints -/
def jmax (x y : Int32) : Int32 := if x < y then y else x
def jmin (x y : Int32) : Int32 := if y < x then y else x
theorem r_max {idx cn sn : Nat} (h0 : CX own cc nL rm X w) (hl : Cond.methodLink own idx Lib.Math.max.name ∈ GW) (hi : Cond.static Lib.Math.max.name ∈ GW) (hini : Cond.initialized "java/lang/Math" ∈ GW) (hc : Cond.code Lib.Math.max.name Lib.Math.max.code 2 (some .int) ∈ GW) {x y : Int32} (hdg : decode cc pc = .ok (.invokestatic idx, 3)) (e : pc + 3 = pc') (hW : (st.map fun v => v.category).sum ≤ 8) (hR : 1 ≤ rm.frames ∧ 21 ≤ rm.locals) (hcs : cn ≤ rm.cells ∧ sn ≤ rm.slots) (k : GV X w nL cn sn S L pc' (.int (jmax x y) :: st)) : GV X w nL cn sn S L pc (.int y :: .int x :: st) := by
  obtain ⟨p, l, en, R, s, m, args, below, meth, c, Q⟩ := X
  obtain ⟨hx, hb, hml, hown, hts, hK, -, hw, hN, rfl⟩ := h0
  subst e
  intro H locs ls hP hS hls
  exact va_mmax hx hb (by rw [hls.1]; exact hml) hown (hts _ hl) (hts _ hi) (hts _ hini) (hts _ hc) hR.1 (by omega) hcs.1 hcs.2 hdg (k H locs ls hP hS hls)
theorem r_min {idx cn sn : Nat} (h0 : CX own cc nL rm X w) (hl : Cond.methodLink own idx Lib.Math.min.name ∈ GW) (hi : Cond.static Lib.Math.min.name ∈ GW) (hini : Cond.initialized "java/lang/Math" ∈ GW) (hc : Cond.code Lib.Math.min.name Lib.Math.min.code 2 (some .int) ∈ GW) {x y : Int32} (hdg : decode cc pc = .ok (.invokestatic idx, 3)) (e : pc + 3 = pc') (hW : (st.map fun v => v.category).sum ≤ 8) (hR : 1 ≤ rm.frames ∧ 21 ≤ rm.locals) (hcs : cn ≤ rm.cells ∧ sn ≤ rm.slots) (k : GV X w nL cn sn S L pc' (.int (jmin x y) :: st)) : GV X w nL cn sn S L pc (.int y :: .int x :: st) := by
  obtain ⟨p, l, en, R, s, m, args, below, meth, c, Q⟩ := X
  obtain ⟨hx, hb, hml, hown, hts, hK, -, hw, hN, rfl⟩ := h0
  subst e
  intro H locs ls hP hS hls
  exact va_mmin hx hb (by rw [hls.1]; exact hml) hown (hts _ hl) (hts _ hi) (hts _ hini) (hts _ hc) hR.1 (by omega) hcs.1 hcs.2 hdg (k H locs ls hP hS hls)
end RC
