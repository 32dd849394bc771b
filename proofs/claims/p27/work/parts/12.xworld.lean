/-! Methods that may throw: their contracts, and the rows of a throw, of a call that may throw, of an end. -/
def exN (n : Nat) : String := match n with
  | 1 => "java/lang/IllegalArgumentException"
  | 2 => "java/lang/IllegalStateException"
  | _ => "java/lang/IndexOutOfBoundsException"
def tOf {α : Type} (z : Nat ⊕ α) : Option String := match z with
  | .inl n => some (exN n)
  | .inr _ => none
def oOf {α : Type} (f : α → Option Value) (z : Nat ⊕ α) : Option Value := match z with
  | .inl _ => none
  | .inr r => f r
def bx {α γ : Type} (a : Option (Nat ⊕ α)) (T : Nat → γ) (K : α → Option γ) : Option γ := match a with
  | some (.inr r) => K r
  | some (.inl n) => some (T n)
  | none => none
def isDC : Cond → Bool
  | .castable .. => true
  | .declares .. => true
  | _ => false
def DW : List Cond := lw_tbl.filter isDC
theorem dw_warm {s U : State} (hW : s.WarmedH U.vm) (h : ∀ t ∈ DW, va_Nw t s) : ∀ t ∈ DW, va_Nw t U := by
  intro t ht
  have h1 := h t ht
  have h2 : isDC t = true := (List.mem_filter.mp ht).2
  cases t <;> first
    | exact va_Nw.warmC hW h1
    | exact va_Nw.warmD hW h1
    | cases h2
theorem dw_same {s U : State} (hv : s.vm = U.vm) (h : ∀ t ∈ DW, va_Nw t s) : ∀ t ∈ DW, va_Nw t U := by
  intro t ht
  have h1 := h t ht
  have h2 : isDC t = true := (List.mem_filter.mp ht).2
  cases t <;> first
    | exact va_Nw.same rfl hv h1
    | cases h2
theorem dw_use {s : State} {a : Array Value} (h : ∀ t ∈ DW, va_Nw t s) : ∀ t ∈ DW, t.before a s = true := by
  intro t ht
  have h1 := h t ht
  have h2 : isDC t = true := (List.mem_filter.mp ht).2
  cases t <;> first
    | exact va_Nw.use rfl h1
    | cases h2
def SW : List (String × Nat × String) := [(RX1, 35, "no such junction"), (RX7, 42, "junctions or cycle out of range"), (RX7, 232, "no such movement"), (RX7, 57, "same movements, or clearance out of range"), (RX7, 218, "a second has run, or a bus has called"), (RX7, 70, "conflict in a phase"), (RX7, 81, "set of movements out of range"), (RX7, 95, "flow out of range"), (RX1, 44, "no link behind the last junction"), (RX7, 108, "seconds or room out of range"), (RX7, 121, "offset out of range"), (RX7, 223, "a junction has no plan"), (RX7, 229, "no such phase"), (RX7, 225, "the junction has no plan"), (RX7, 160, "second out of range"), (RX7, 177, "seconds out of range"), (RX7, 182, "clock would be above 7200"), (RX7, 190, "no phase has the movement"), (RX7, 195, "a bus has called in this cycle")]
/-- what a throw needs of the tables and of the heap's old cells -/
def EXT (U : State) : Prop := (∀ t ∈ DW, va_Nw t U) ∧ ∀ q ∈ SW, ∃ sa, vk_R q.1 q.2.1 q.2.2 sa U
def EXZ (A : Nat → Prop) (U : State) (H : Heap) : Prop := vx_Zq Bundle.tN "UNASSIGNED_STACK" Bundle.steD A U H ∧ vx_Zq Bundle.tN "SUPPRESSED_SENTINEL" Bundle.listD A U H
theorem ext_warm {s U : State} (hW : s.WarmedH U.vm) (h : EXT s) : EXT U := ⟨dw_warm hW h.1, fun q hq => (h.2 q hq).imp fun _ z => vk_R.warm hW z⟩
theorem ext_same {s U : State} (hv : U.vm = s.vm) (h : EXT s) : EXT U := ⟨dw_same hv.symm h.1, fun q hq => (h.2 q hq).imp fun _ z => vk_R.same hv z⟩
theorem exz_moved {A : Nat → Prop} {s U : State} {H : Heap} (hvm : s.vm.Alike U.vm) (h : EXZ A s H) : EXZ A U H := ⟨vx_Zq.moved hvm h.1, vx_Zq.moved hvm h.2⟩
theorem exz_kept {A : Nat → Prop} {s : State} {H H1 : Heap} (h : EXZ A s H) (hq : ∀ a : Nat, a < H.size → ¬ A a → H1[a]? = H[a]?) : EXZ A s H1 := ⟨vx_Zq.kept h.1 hq, vx_Zq.kept h.2 hq⟩
theorem exz_narrow {A B : Nat → Prop} {s : State} {H : Heap} (h : EXZ A s H) (hAB : ∀ q, B q → A q) : EXZ B s H := ⟨vx_Zq.narrow h.1 hAB, vx_Zq.narrow h.2 hAB⟩
def PXx (w : WX) (av : List Value) (S : Mem) (sz : Nat) : Array Value → State → Prop := va_Pc av (fun U => U.heap.size = sz ∧ hp w S U.heap ∧ va_K (wD w) (wCl w) (wTy w) U ∧ (∀ t ∈ NW, va_Nw t U) ∧ wok w ∧ EXT U ∧ EXZ (AA w sz) U U.heap)
theorem px_blind {w : WX} {av : List Value} {S : Mem} {sz : Nat} : FrameBlind (PXx w av S sz) := by
  intro a U g mk h
  obtain ⟨h1, h2, h3, h4, h5, h6, h7, h8⟩ := h
  exact ⟨h1, h2, h3, va_K.moved (u := U) (U := U.calling g mk a) (Vm.Alike.refl U.vm) h4, nw_calling h5, h6, ext_same (s := U) (U := U.calling g mk a) rfl h7, exz_moved (s := U) (U := U.calling g mk a) (Vm.Alike.refl U.vm) h8⟩
def Qx (t : Option String) (o : Option Value) (B : Heap → Prop) (A : Nat → Prop) : Array Value → State → Outcome → State → Prop := fun _ st oc u => (t = none ∧ oc = .returned o ∧ B u.heap) ∧ va_F A st u
def XCx (t : Option String) (B : Heap → Prop) (A : Nat → Prop) : String → State → State → Prop := fun E st u => (t = some E ∧ B u.heap) ∧ va_F A st u
/-- THE CONTRACT of a method that may throw: t is the exception's class, if there is one -/
def ctX (y : MethodName) (cc : ByteArray) (nL : Nat) (ret : Option FieldType) (rm : Room) (mc ms : Nat) (w : WX) (av : List Value) (S : Mem) (t : Option String) (o : Option Value) (S' : Mem) : Prop :=
  ∀ (l : Launch) (sz : Nat), l.stackTraces = false → vx_Met l y (.code y cc nL ret :: GW) rm (PXx w av S sz) (Qx t o (hp w S') (AA w sz)) (XCx t (hp w S') (AA w sz)) mc ms (AA w sz)
def CXX (X : MX) (w : WX) : Prop := match X with
  | (_, l, _, _, s, _, _, _, _, c, _) => l.stackTraces = false ∧ EXT s ∧ EXZ (AA w s.heap.size) s s.heap ∧ ∀ x ∈ c.exceptionTable.toList, False
def ENX (ret : Option FieldType) (t : Option String) (o : Option Value) (S' : Mem) (mc ms : Nat) (X : MX) (w : WX) : Prop := match X with
  | (_, _, _, _, s, _, args, below, meth, _, Q) => meth.sig.returnType = ret ∧ Q = vx_MQ below (Qx t o (hp w S') (AA w s.heap.size)) (XCx t (hp w S') (AA w s.heap.size)) args s mc ms (AA w s.heap.size)
theorem ctx_of {own : String} {y : MethodName} {cc : ByteArray} {nL mc ms : Nat} {ret : Option FieldType} {rm : Room} {w : WX} {av : List Value} {S S' : Mem} {t : Option String} {o : Option Value} {L : List (Nat × Value)} (hy : plainName y.cls = true) (hyo : y.cls = own) (hn : (lg_sl av).length ≤ nL) (hL : lv_args 0 av = L)
    (body : ∀ X, CX own cc nL rm X w → CXX X w → ENX ret t o S' mc ms X w → GV X w nL 0 0 S L 0 []) : ctX y cc nL ret rm mc ms w av S t o S' := by
  intro l sz hl
  refine vx_ofW (cc := cc) (maxL := nL) (ret := ret) hy rfl ?_
  intro p e s m args below meth c s₁ B hml htb hv
  obtain ⟨rfl, rfl, hP, hK, hN, hw, hT, hZ⟩ := hv
  have hown : s.vm.findClass own = some m.cls := by
    rw [← hyo]
    exact findClass_of_methodNamed B.named
  have hts : ∀ t ∈ GW, t.before av.toArray s = true := fun t ht => atoms_spec (ws := .code y cc nL ret :: GW) B.pre t (List.mem_cons_of_mem _ ht)
  have hb := body (p, l, e, rm, s, m, av.toArray, below, meth, c, vx_MQ below (Qx t o (hp w S') (AA w s.heap.size)) (XCx t (hp w S') (AA w s.heap.size)) av.toArray s mc ms (AA w s.heap.size)) ⟨B.exec, B.bytes, hml, hown, hts, hK, B.notSynchronized, hw, hN, rfl⟩ ⟨hl, hT, hZ, htb⟩ ⟨B.returns, rfl⟩
  have hl := lv_entry av (n := nL) hn
  rw [lg_entry_eq]
  rw [hL] at hl
  exact hb s.heap [] _ hP va_S.rf hl
theorem hp_keep {w : WX} {S : Mem} {H H1 : Heap} (h : hp w S H) (hq : ∀ q : Nat, q < H.size → H1[q]? = H[q]?) : hp w S H1 := fun c k hk => (h c k hk).kept (hq _ (h c k hk).lt)
section XE
variable {own : String} {cc : ByteArray} {nL : Nat} {rm : Room} {X : MX} {w : WX} {S S' : Mem} {L : List (Nat × Value)} {pc pc' cn sn mc ms : Nat} {t : Option String} {o : Option Value}
theorem x_iret (h0 : CX own cc nL rm X w) {x : Int32} (hE : ENX (some .int) t o S' mc ms X w) (hdg : decode cc pc = .ok (.ireturn, 1)) (hc : cn ≤ mc ∧ sn ≤ ms) (hz : t = none ∧ o = some (.int x) ∧ S' = S) : GV X w nL cn sn S L pc [.int x] := by
  obtain ⟨p, l, en, R, s, m, args, below, meth, c, Q⟩ := X
  obtain ⟨hx, hb, -, -, -, -, hlk, -⟩ := h0
  obtain ⟨hr, hQ⟩ := hE
  obtain ⟨rfl, rfl, rfl⟩ := hz
  subst hQ
  intro H locs ls hP hS hl
  exact W.widen hc.1 hc.2 (vx_ret (W.iret hx hb hr (fun t ht hW => ⟨⟨rfl, rfl, by rw [ht]; exact hP⟩, hS.F ht⟩) hS.2.2 hdg hlk))
theorem x_zret (h0 : CX own cc nL rm X w) {x : Int32} (hE : ENX (some .boolean) t o S' mc ms X w) (hdg : decode cc pc = .ok (.ireturn, 1)) (hc : cn ≤ mc ∧ sn ≤ ms) (hz : t = none ∧ o = some (.int (nb x)) ∧ S' = S) : GV X w nL cn sn S L pc [.int x] := by
  obtain ⟨p, l, en, R, s, m, args, below, meth, c, Q⟩ := X
  obtain ⟨hx, hb, -, -, -, -, hlk, -⟩ := h0
  obtain ⟨hr, hQ⟩ := hE
  obtain ⟨rfl, rfl, rfl⟩ := hz
  subst hQ
  intro H locs ls hP hS hl
  exact W.widen hc.1 hc.2 (vx_ret (W_zretN hx hb hr rfl (fun t ht hW => ⟨⟨rfl, rfl, by rw [ht]; exact hP⟩, hS.F ht⟩) hS.2.2 hdg hlk))
theorem x_vret (h0 : CX own cc nL rm X w) (hE : ENX none t o S' mc ms X w) (hdg : decode cc pc = .ok (.return_, 1)) (hc : cn ≤ mc ∧ sn ≤ ms) (hz : t = none ∧ o = none ∧ S' = S) : GV X w nL cn sn S L pc [] := by
  obtain ⟨p, l, en, R, s, m, args, below, meth, c, Q⟩ := X
  obtain ⟨hx, hb, -, -, -, -, hlk, -⟩ := h0
  obtain ⟨hr, hQ⟩ := hE
  obtain ⟨rfl, rfl, rfl⟩ := hz
  subst hQ
  intro H locs ls hP hS hl
  exact W.widen hc.1 hc.2 (vx_ret (W.vret hx hb hr (fun t ht hW => ⟨⟨rfl, rfl, by rw [ht]; exact hP⟩, hS.F ht⟩) hS.2.2 hdg hlk))
theorem x_aret (h0 : CX own cc nL rm X w) {C : String} {ck x : Nat} (hE : ENX (some (.object C)) t o S' mc ms X w) (hdg : decode cc pc = .ok (.areturn, 1)) (hc : cn ≤ mc ∧ sn ≤ ms) (hz : t = none ∧ o = some (.ref (wA w ck x)) ∧ S' = S) : GV X w nL cn sn S L pc [.ref (wA w ck x)] := by
  obtain ⟨p, l, en, R, s, m, args, below, meth, c, Q⟩ := X
  obtain ⟨hx, hb, -, -, -, -, hlk, -⟩ := h0
  obtain ⟨hr, hQ⟩ := hE
  obtain ⟨rfl, rfl, rfl⟩ := hz
  subst hQ
  intro H locs ls hP hS hl
  exact W.widen hc.1 hc.2 (vx_ret (W.aret hx hb hr (Or.inl ⟨C, rfl⟩) (Or.inr ⟨_, rfl⟩) (fun t ht hW => ⟨⟨rfl, rfl, by rw [ht]; exact hP⟩, hS.F ht⟩) hS.2.2 hdg hlk))
/-- the words of a throw, told once a place -/
def thOK (own : String) (ik is ic : Nat) (cls text : String) : Prop := Cond.classLink own ik cls ∈ GW ∧ Cond.initialized cls ∈ GW ∧ (own, is, text) ∈ SW ∧ (∀ w ∈ vx_atS own ic cls ["java/lang/RuntimeException", "java/lang/Exception"], w ∈ GW ∨ w ∈ DW) ∧ (∀ w ∈ Cond.classLink own ik cls :: Cond.initialized cls :: vx_atS own ic cls ["java/lang/RuntimeException", "java/lang/Exception"], vx_ot w = true) ∧ Bundle.fit cls = true ∧ ∀ n ∈ ["java/lang/RuntimeException", "java/lang/Exception"], Bundle.fit n = true
theorem x_throw {ret : Option FieldType} {st : List Value} {ik is ic : Nat} {cls text : String} (hth : thOK own ik is ic cls text) (h0 : CX own cc nL rm X w) (h1 : CXX X w) (hE : ENX ret t o S' mc ms X w) (d0 : decode cc pc = .ok (.new ik, 3)) (d3 : decode cc (pc + 3) = .ok (.dup, 1)) (d4 : decode cc (pc + 4) = .ok (.ldc is, 2)) (d6 : decode cc (pc + 6) = .ok (.invokespecial ic, 3)) (d9 : decode cc (pc + 9) = .ok (.athrow, 1)) (hW : (st.map fun v => v.category).sum ≤ 8) (hR : 6 ≤ rm.frames ∧ 90 ≤ rm.locals) (hcs : cn + 1 ≤ rm.cells ∧ sn + 6 ≤ rm.slots) (hc : cn + 1 ≤ mc ∧ sn + 6 ≤ ms) (hz : t = some cls ∧ S' = S) : GV X w nL cn sn S L pc st := by
  obtain ⟨p, l, en, R, s, m, args, below, meth, c, Q⟩ := X
  obtain ⟨hx, hb, hml, hown, hts, hK, hlk, hw, hN, rfl⟩ := h0
  obtain ⟨hst, hT, hZ, htb⟩ := h1
  obtain ⟨hr, hQ⟩ := hE
  obtain ⟨rfl, rfl⟩ := hz
  subst hQ
  obtain ⟨t1, t2, t3, t4, t5, t6, t7⟩ := hth
  obtain ⟨sa, hsa⟩ := hT.2 _ t3
  intro H locs ls hP hS hl
  exact vx_throwS (names := ["java/lang/RuntimeException", "java/lang/Exception"]) hx hb hst hown t6 t7 (hts _ t1) (hts _ t2) hsa (fun v hv => (t4 v hv).elim (hts v) (dw_use hT.1 v)) t5 hZ.1 hZ.2 hS (by rw [hl.1]; exact hml.symm) d0 d3 d4 d6 d9 (fun x hx => (htb x hx).elim) (by show 2 + 3 < R.frames; omega) (by show _ + (13 * (2 + 1) + 43) ≤ R.locals; omega) hcs.1 hcs.2 hlk (fun u _ h1 h2 => ⟨⟨rfl, hp_keep hP h2⟩, Nat.le_trans hS.1 h1, fun q hq1 hq2 => (h2 q (Nat.lt_of_lt_of_le hq1 hS.1)).trans (hS.2.1 q hq1 hq2)⟩) hS.2.2 hc.1 hc.2
end XE
section XC
variable {own : String} {cc : ByteArray} {nL : Nat} {rm : Room} {X : MX} {w : WX} {S S' : Mem} {L : List (Nat × Value)} {pc pc' : Nat} {st : List Value}
theorem runx_go {p : Program} {l : Launch} {e : Env} {R : Room} {s : State} {m : MethodId} {args : Array Value} {below : List Frame} {meth : Method} {c : Code} {H : Heap} {locs : List Loc} {cells slots mc ms : Nat} {Q : State → Prop} {ls : Array Slot} {rest st0 : List Value} {a : Array Value} {A0 A1 : Nat → Prop} {H0 : Heap} {free : Addr → Prop} {t : Option String} {o : Option Value} {B : Heap → Prop}
    (hr : vx_Run p l e R s m args below meth c H locs cells slots mc ms (F0 m pc ls st0) rest (Qx t o B A1 a) (XCx t B A1) free) (hS : va_S A0 H0 H locs) (hA : ∀ q, q < H.size → A1 q → A0 q) (hf : ∀ q, free q → A0 q)
    (kx : ∀ (E : String) (ce : Cell) (q9 : Addr) (H1 : Heap) (locs1 : List Loc), t = some E → B H1 → va_S A0 H0 H1 locs1 → H1[q9]? = some ce → ce.vm = .none → s.vm.findClass E = some ce.cls → vx_W p l e R s m args below meth c H1 locs1 (cells + mc) (slots + ms) Q (F0 m pc ls rest) q9)
    (kk : ∀ (H1 : Heap) (locs1 : List Loc), t = none → B H1 → va_S A0 H0 H1 locs1 → W p l e R s m args below meth c H1 locs1 (cells + mc) (slots + ms) Q (F0 m (pc + 3) ls (o.toList ++ rest))) : W p l e R s m args below meth c H locs cells slots Q (F0 m pc ls st0) := by
  intro T hT X
  rcases hr T hT X with ⟨v, st₀, t', T', L, h0, X', hL, e1, e2, ⟨⟨ht, hv, hb⟩, hF⟩, st⟩ | ⟨q, st₀, t', T', L, E, ce, h0, X', hL, e1, e2, ⟨⟨ht, hb⟩, hF⟩, hce, hcv, hcl, st⟩
  · cases hv
    obtain ⟨k1, k2, k3⟩ := vx_keep h0 e1 hS hA hf hL hF
    obtain ⟨t2, a1, b1⟩ := kk T'.heap (locs ++ L) ht (by rw [e1]; exact hb) k3 T' rfl X'
    exact ⟨t2, st t2 a1, b1⟩
  · obtain ⟨k1, k2, k3⟩ := vx_keep h0 e1 hS hA hf hL hF
    obtain ⟨t2, a1, b1⟩ := kx E ce q T'.heap (locs ++ L) ht (by rw [e1]; exact hb) k3 (by rw [e1]; exact hce) hcv hcl T' rfl X'
    exact ⟨t2, st.trans a1, b1⟩
theorem px_in {w : WX} {S : Mem} {s : State} {H : Heap} {locs : List Loc} {av : List Value} (hP : hp w S H) (hK : va_K (wD w) (wCl w) (wTy w) s) (hN : ∀ t ∈ NW, va_Nw t s) (hw : wok w) (hT : EXT s) (hZ : EXZ (AA w s.heap.size) s s.heap) (hS : va_S (AA w s.heap.size) s.heap H locs) : ∀ U : State, U.heap = H → s.WarmedH U.vm → PXx w av S H.size av.toArray U :=
  fun U hU hW => ⟨rfl, by rw [hU], by rw [hU]; exact hP, va_K.moved hW.alike hK, nw_warm hW hN, hw, ext_warm hW hT, by rw [hU]; exact exz_narrow (exz_moved hW.alike (exz_kept hZ hS.2.1)) (AA_up hS.1)⟩
/-- calls of a callee that may throw, from a method that may throw and catches nothing -/
theorem gx_V {own C : String} {idx ck maxL n cn sn k uc us mc ms : Nat} {y : MethodName} {bytes : ByteArray} {ret rt : Option FieldType} {rc : Room} {α γ : Type} {a : Option (Nat ⊕ α)} {T : Nat → γ} {K : α → Option γ} {z : γ} {ov : α → Option Value} {t : Option String} {o : Option Value} (ho : isObj w C ck) (hl : Cond.methodLink own idx y ∈ GW) (hi : Cond.instanceMethod y ∈ GW) (hs : Cond.selects C y y ∈ GW) (hc : Cond.code y bytes maxL ret ∈ GW) (hini : Cond.initialized y.cls ∈ GW) (hd : plainY y n)
    (As rest : List Value) (h0 : CX own cc nL rm X w) (h1 : CXX X w) (hE : ENX rt t o S' mc ms X w) (hk : k < wN w ck) (hM : ∀ za, a = some za → ctX y bytes maxL ret rc uc us w (.ref (wA w ck k) :: As) S (tOf za) (oOf ov za) S) (hst : st = As.reverse ++ .ref (wA w ck k) :: rest) (hn : As.length = n) (hdg : decode cc pc = .ok (.invokevirtual idx, 3)) (e : pc + 3 = pc') (hW : (rest.map fun v => v.category).sum ≤ 8) (hR : rc.cells = uc ∧ rc.slots = us ∧ rc.frames + 1 ≤ rm.frames ∧ 8 + (maxL + 11) + rc.locals ≤ rm.locals) (hcs : cn + uc ≤ rm.cells ∧ sn + us ≤ rm.slots) (hcm : cn + uc ≤ mc ∧ sn + us ≤ ms) (h : bx a T K = some z) (hT : ∀ E, T E = z → t = some (exN E) ∧ S' = S)
    (kk : ∀ r, K r = some z → a = some (.inr r) → GV X w nL (cn + uc) (sn + us) S L pc' ((ov r).toList ++ rest)) : GV X w nL cn sn S L pc st := by
  cases ha : a with
  | none => rw [ha] at h; cases h
  | some za =>
    have hM1 := hM za ha
    rw [ha] at h
    obtain ⟨p, l, en, R, s, m, args, below, meth, c, Q⟩ := X
    obtain ⟨hx, hb, hml, hown, hts, hK, hlk, hw, hN, rfl⟩ := h0
    obtain ⟨hstt, hT0, hZ, htb⟩ := h1
    obtain ⟨hr, hQ⟩ := hE
    subst e
    subst hst
    subst hQ
    intro H locs ls hP hS hls
    refine runx_go (vx_runV (As := As) (rest := rest) ⟨hx, hb, hml, hown, hts⟩ (hM1 l H.size hstt) ⟨callB_of n hts (goodGW hc) rfl hR.1 hR.2.1 (hts _ hini) (hts _ hl) hd ⟨hR.2.2.1, hR.2.2.2⟩, hts _ hi, hts _ hs⟩ ⟨px_blind, grecv ho hP hK hk, px_in hP hK hN hw hT0 hZ hS⟩ rfl hn hls.1 rfl (lv_room hW) hdg ⟨hcs.1, hcs.2⟩) hS (fun q _ h => AA_up hS.1 q h) (fun q h => AA_up hS.1 q h) (fun E ce q9 H1 locs1 ht hB hS1 hc1 hc2 hc3 => ?_) (fun H1 locs1 ht hB hS1 => ?_)
    · cases za with
      | inr r => cases ht
      | inl n =>
        cases ht
        obtain ⟨e1, rfl⟩ := hT n (Option.some.inj h)
        exact vx_out (fun x hx => (htb x hx).elim) hlk hc1 hc2 hc3 (fun u hu _ => ⟨⟨e1, by rw [hu]; exact hB⟩, hS1.F hu⟩) hS1.2.2 hcm.1 hcm.2
    · cases za with
      | inl n => cases ht
      | inr r => exact kk r h ha H1 locs1 ls hB hS1 hls
theorem gx_S {own : String} {idx maxL n cn sn uc us mc ms : Nat} {y : MethodName} {bytes : ByteArray} {ret rt : Option FieldType} {rc : Room} {α γ : Type} {a : Option (Nat ⊕ α)} {T : Nat → γ} {K : α → Option γ} {z : γ} {ov : α → Option Value} {t : Option String} {o : Option Value} (hl : Cond.methodLink own idx y ∈ GW) (hi : Cond.static y ∈ GW) (hc : Cond.code y bytes maxL ret ∈ GW) (hini : Cond.initialized y.cls ∈ GW) (hd : plainY y n)
    (As rest : List Value) (h0 : CX own cc nL rm X w) (h1 : CXX X w) (hE : ENX rt t o S' mc ms X w) (hM : ∀ za, a = some za → ctX y bytes maxL ret rc uc us w As S (tOf za) (oOf ov za) S) (hst : st = As.reverse ++ rest) (hn : As.length = n) (hdg : decode cc pc = .ok (.invokestatic idx, 3)) (e : pc + 3 = pc') (hW : (rest.map fun v => v.category).sum ≤ 8) (hR : rc.cells = uc ∧ rc.slots = us ∧ rc.frames + 1 ≤ rm.frames ∧ 8 + (maxL + 11) + rc.locals ≤ rm.locals) (hcs : cn + uc ≤ rm.cells ∧ sn + us ≤ rm.slots) (hcm : cn + uc ≤ mc ∧ sn + us ≤ ms) (h : bx a T K = some z) (hT : ∀ E, T E = z → t = some (exN E) ∧ S' = S)
    (kk : ∀ r, K r = some z → a = some (.inr r) → GV X w nL (cn + uc) (sn + us) S L pc' ((ov r).toList ++ rest)) : GV X w nL cn sn S L pc st := by
  cases ha : a with
  | none => rw [ha] at h; cases h
  | some za =>
    have hM1 := hM za ha
    rw [ha] at h
    obtain ⟨p, l, en, R, s, m, args, below, meth, c, Q⟩ := X
    obtain ⟨hx, hb, hml, hown, hts, hK, hlk, hw, hN, rfl⟩ := h0
    obtain ⟨hstt, hT0, hZ, htb⟩ := h1
    obtain ⟨hr, hQ⟩ := hE
    subst e
    subst hst
    subst hQ
    intro H locs ls hP hS hls
    refine runx_go (vx_runS (As := As) (rest := rest) ⟨hx, hb, hml, hown, hts⟩ (hM1 l H.size hstt) ⟨callB_of n hts (goodGW hc) rfl hR.1 hR.2.1 (hts _ hini) (hts _ hl) hd ⟨hR.2.2.1, hR.2.2.2⟩, hts _ hi⟩ ⟨px_blind, px_in hP hK hN hw hT0 hZ hS⟩ rfl hn hls.1 rfl (lv_room hW) hdg ⟨hcs.1, hcs.2⟩) hS (fun q _ h => AA_up hS.1 q h) (fun q h => AA_up hS.1 q h) (fun E ce q9 H1 locs1 ht hB hS1 hc1 hc2 hc3 => ?_) (fun H1 locs1 ht hB hS1 => ?_)
    · cases za with
      | inr r => cases ht
      | inl n =>
        cases ht
        obtain ⟨e1, rfl⟩ := hT n (Option.some.inj h)
        exact vx_out (fun x hx => (htb x hx).elim) hlk hc1 hc2 hc3 (fun u hu _ => ⟨⟨e1, by rw [hu]; exact hB⟩, hS1.F hu⟩) hS1.2.2 hcm.1 hcm.2
    · cases za with
      | inl n => cases ht
      | inr r => exact kk r h ha H1 locs1 ls hB hS1 hls
end XC
/-- the words of a throw but its text -/
def thAt (own : String) (ik ic : Nat) (cls : String) : Prop := Cond.classLink own ik cls ∈ GW ∧ Cond.initialized cls ∈ GW ∧ (∀ w ∈ vx_atS own ic cls ["java/lang/RuntimeException", "java/lang/Exception"], w ∈ GW ∨ w ∈ DW) ∧ (∀ w ∈ Cond.classLink own ik cls :: Cond.initialized cls :: vx_atS own ic cls ["java/lang/RuntimeException", "java/lang/Exception"], vx_ot w = true) ∧ Bundle.fit cls = true ∧ ∀ n ∈ ["java/lang/RuntimeException", "java/lang/Exception"], Bundle.fit n = true
theorem thAt.ok {own cls text : String} {ik is ic : Nat} (h : thAt own ik ic cls) (ht : (own, is, text) ∈ SW) : thOK own ik is ic cls text := ⟨h.1, h.2.1, ht, h.2.2.1, h.2.2.2.1, h.2.2.2.2.1, h.2.2.2.2.2⟩
theorem gv_widen {X : MX} {w : WX} {nL cn sn cn' sn' pc : Nat} {S : Mem} {L : List (Nat × Value)} {st : List Value} (h1 : cn ≤ cn') (h2 : sn ≤ sn') (k : GV X w nL cn' sn' S L pc st) : GV X w nL cn sn S L pc st := by
  obtain ⟨p, l, en, R, s, m, args, below, meth, c, Q⟩ := X
  intro H locs ls hP hS hl
  exact W.widen h1 h2 (k H locs ls hP hS hl)
def oI (r : Int32) : Option Value := some (.int r)
def oU (_ : Unit) : Option Value := none
def oR (w : WX) (ck : Nat) (r : Nat) : Option Value := some (.ref (wA w ck r))
