/-! Constructors: the cells from b on, one behind the other. -/
def hq (D : va_G) (cl : List vw_C) (b : Nat) (es : List va_E) (H : Heap) : Prop := H.size = b + es.length ∧ ∀ (i : Nat) (e : va_E), es[i]? = some e → va_at D cl (b + i, e) H
theorem hq_push {D : va_G} {cl : List vw_C} {b n : Nat} {es : List va_E} {e : va_E} {H H1 : Heap} (h : hq D cl b es H) (hn : es.length = n) (z : H1.size = H.size + 1) (o : ∀ q, q < H.size → H1[q]? = H[q]?) (ha : va_at D cl (b + n, e) H1) : hq D cl b (es ++ [e]) H1 := by
  refine ⟨by rw [z, h.1, List.length_append]; rfl, fun i x hx => ?_⟩
  by_cases hl : i < es.length
  · rw [List.getElem?_append_left hl] at hx
    exact (h.2 i x hx).kept (o _ (by have := h.1; show b + i < _; omega))
  · rw [List.getElem?_append_right (by omega)] at hx
    have hz : i - es.length < 1 := (List.getElem?_eq_some_iff.mp hx).1
    rw [show i - es.length = 0 by omega] at hx
    cases hx
    rw [show i = n by omega]
    exact ha
theorem hq_set {D : va_G} {cl : List vw_C} {b j : Nat} {es : List va_E} {e : va_E} {H H1 : Heap} (h : hq D cl b es H) (z : H1.size = H.size) (o : ∀ q, q ≠ b + j → H1[q]? = H[q]?) (ha : va_at D cl (b + j, e) H1) : hq D cl b (es.set j e) H1 := by
  refine ⟨by rw [z, h.1, List.length_set], fun i x hx => ?_⟩
  by_cases hl : i = j
  · subst hl
    rw [List.getElem?_set] at hx
    rw [if_pos rfl] at hx
    split at hx
    · cases hx; exact ha
    · cases hx
  · rw [List.getElem?_set_ne (Ne.symm hl)] at hx
    exact (h.2 i x hx).kept (o _ (by show b + i ≠ _; omega))
theorem hq_one {D : va_G} {cl : List vw_C} {b j : Nat} {es : List va_E} {e : va_E} {H : Heap} (h : hq D cl b es H) (hj : es[j]? = some e) : va_P D cl [(b + j, e)] H := by
  intro i q hi
  have hz : i < 1 := (List.getElem?_eq_some_iff.mp hi).1
  have hi0 : i = 0 := by omega
  subst hi0
  cases hi
  exact h.2 j e hj
/-- a constructor's own context -/
def KI (D : va_G) (cl : List vw_C) (tys : List (ClassId × FieldType)) (X : MX) : Prop := va_K D cl tys X.2.2.2.2.1 ∧ X.2.2.2.2.2.2.2.2.1.name = "<init>" ∧ va_AO "Greenwave$Junction" X.2.2.2.2.1
def PI (D : va_G) (cl : List vw_C) (tys : List (ClassId × FieldType)) (b : Nat) (es : List va_E) (av : List Value) : Array Value → State → Prop := va_Pc av (fun U => hq D cl b es U.heap ∧ va_K D cl tys U ∧ (∀ t ∈ NW, va_Nw t U) ∧ va_AO "Greenwave$Junction" U)
theorem pi_blind {D : va_G} {cl : List vw_C} {tys : List (ClassId × FieldType)} {b : Nat} {es : List va_E} {av : List Value} : FrameBlind (PI D cl tys b es av) := by
  intro a U g mk h
  obtain ⟨h1, h2, h3, h4, h5⟩ := h
  exact ⟨h1, h2, va_K.moved (u := U) (U := U.calling g mk a) (Vm.Alike.refl U.vm) h3, nw_calling h4, va_AO.moved (u := U) (U := U.calling g mk a) (Vm.Alike.refl U.vm) h5⟩
/-- THE CONTRACT of a constructor: from the cells es it comes to a heap with B -/
def ctI (y : MethodName) (cc : ByteArray) (nL : Nat) (rm : Room) (mc ms : Nat) (D : va_G) (cl : List vw_C) (tys : List (ClassId × FieldType)) (b : Nat) (av : List Value) (es : List va_E) (B : Heap → Prop) : Prop :=
  ∀ l : Launch, Met l y (.code y cc nL none :: GW) rm (PI D cl tys b es av) (Qo none B (fun q => b ≤ q)) mc ms (fun q => b ≤ q)
def EI (B : Heap → Prop) (b mc ms : Nat) (X : MX) : Prop := match X with
  | (_, _, _, _, s, _, args, below, meth, _, Q) => meth.sig.returnType = none ∧ Q = MQ below (Qo none B (fun q => b ≤ q)) args s mc ms (fun q => b ≤ q)
theorem cti_of {own : String} {y : MethodName} {cc : ByteArray} {nL mc ms : Nat} {rm : Room} {D : va_G} {cl : List vw_C} {tys : List (ClassId × FieldType)} {b : Nat} {av : List Value} {es : List va_E} {B : Heap → Prop} {L : List (Nat × Value)} (hy : plainName y.cls = true) (hyo : y.cls = own) (hyn : y.name = "<init>") (hn : (lg_sl av).length ≤ nL) (hL : lv_args 0 av = L)
    (body : ∀ X : MX, LX own cc nL rm X → KI D cl tys X → EI B b mc ms X → LV X (fun q => b ≤ q) nL 0 0 (hq D cl b es) L 0 []) : ctI y cc nL rm mc ms D cl tys b av es B := by
  intro l
  refine Met.ofW (cc := cc) (maxL := nL) (ret := none) hy rfl ?_
  intro p e s m args below meth c s₁ F hml hv
  obtain ⟨rfl, hP, hK, hN, hO⟩ := hv
  have hown : s.vm.findClass own = some m.cls := by
    rw [← hyo]
    exact findClass_of_methodNamed F.named
  have hts : ∀ t ∈ GW, t.before av.toArray s = true := fun t ht => atoms_spec (ws := .code y cc nL none :: GW) F.pre t (List.mem_cons_of_mem _ ht)
  have hin : meth.name = "<init>" := ((name_of_methodNamed F.named F.method).1).trans hyn
  have hb := body (p, l, e, rm, s, m, av.toArray, below, meth, c, MQ below (Qo none B (fun q => b ≤ q)) av.toArray s mc ms (fun q => b ≤ q)) ⟨F.exec, F.bytes, hml, hown, hts, hN, F.notSynchronized, rfl⟩ ⟨hK, hin, hO⟩ ⟨F.returns, rfl⟩
  have hl := lv_entry av (n := nL) hn
  rw [lg_entry_eq]
  rw [hL] at hl
  exact hb s.heap [] _ hP va_S.rf hl
section CI
variable {own : String} {cc : ByteArray} {nL : Nat} {rm : Room} {X : MX} {A : Nat → Prop} {cn sn mc ms b : Nat} {L : List (Nat × Value)} {pc pc' : Nat} {st : List Value} {D : va_G} {cl : List vw_C} {tys : List (ClassId × FieldType)} {es es' : List va_E} {B : Heap → Prop}
theorem i_sipush (h0 : LX own cc nL rm X) {P : Heap → Prop} {n : Int} {v : Int32} (hdg : decode cc pc = .ok (.sipush n, 3)) (hv : (Int16.ofInt n).toInt32 = v) (e : pc + 3 = pc') (k : LV X A nL cn sn P L pc' (.int v :: st)) : LV X A nL cn sn P L pc st := by
  obtain ⟨p, l, en, R, s, m, args, below, meth, c, Q⟩ := X
  obtain ⟨hx, hb, -⟩ := h0
  subst e
  intro H locs ls hP hS hl
  exact lv_sipush hx hb hdg hv (k H locs ls hP hS hl)
theorem i_obj (h0 : LX own cc nL rm X) {P : Heap → Prop} {idx a : Nat} (hlink : Cond.methodLink own idx Lib.objectInit ∈ GW) (hinst : Cond.instanceMethod Lib.objectInit ∈ GW) (hcode : Cond.code Lib.objectInit ⟨#[0xb1]⟩ 1 none ∈ GW) (hdg : decode cc pc = .ok (.invokespecial idx, 3)) (e : pc + 3 = pc') (hW : (st.map fun v => v.category).sum ≤ 8) (hR : 1 ≤ rm.frames ∧ 20 ≤ rm.locals) (k : LV X A nL cn sn P L pc' st) : LV X A nL cn sn P L pc (.ref a :: st) := by
  obtain ⟨p, l, en, R, s, m, args, below, meth, c, Q⟩ := X
  obtain ⟨hx, hb, hml, hown, hts, hN, hlk, rfl⟩ := h0
  subst e
  intro H locs ls hP hS hl
  exact W.objInit hx hb hown (hts _ hlink) (hts _ hinst) (hts _ hcode) rfl (by rw [hml]; exact hl.1) rfl hdg hR.1 (by show 2 * 0 + _ + 12 ≤ _; omega) (k H locs ls hP hS hl)
theorem i_vret (h0 : LX own cc nL rm X) (hE : EI B b mc ms X) {P : Heap → Prop} (hdg : decode cc pc = .ok (.return_, 1)) (hc : cn ≤ mc ∧ sn ≤ ms) (hB : ∀ H, P H → B H) : LV X (fun q => b ≤ q) nL cn sn P L pc [] := by
  obtain ⟨p, l, en, R, s, m, args, below, meth, c, Q⟩ := X
  obtain ⟨hx, hb, -, -, -, -, hlk, -⟩ := h0
  obtain ⟨hr, hQ⟩ := hE
  subst hQ
  intro H locs ls hP hS hl
  exact W.widen hc.1 hc.2 (W.vret hx hb hr (fun t ht hW => ⟨⟨rfl, by rw [ht]; exact hB _ hP⟩, hS.F ht⟩) hS.2.2 hdg hlk)
theorem i_new (h0 : LX own cc nL rm X) (hK : KI D cl tys X) {C : String} {T : u_T} {N ci idx n : Nat} (hc : cl[ci]? = some (C, T, N)) (hin : ∀ t ∈ u_ws C T N, t ∈ GW) (ty : Nat → FieldType) (hty : ∀ k, k < N → parseFieldDescriptor (T k).2.2.1 = some (ty k)) (hlk : Cond.classLink own idx C ∈ GW) (hins : Cond.instantiable C N ∈ GW) (hini : Cond.initialized C ∈ GW) {fs : List Value} (hfs : ∀ j, j < N → defaultValue (ty j) = vp_V fs j) (hcs : cn + 1 ≤ rm.cells ∧ sn + N ≤ rm.slots) (hn : es.length = n) (hdg : decode cc pc = .ok (.new idx, 3)) (e : pc + 3 = pc')
    (k : LV X A nL (cn + 1) (sn + N) (hq D cl b (es ++ [.inr (ci, fs)])) L pc' (.ref (b + n) :: st)) : LV X A nL cn sn (hq D cl b es) L pc st := by
  obtain ⟨p, l, en, R, s, m, args, below, meth, c, Q⟩ := X
  obtain ⟨hx, hb, hml, hown, hts, hN, hlk', rfl⟩ := h0
  obtain ⟨hK, -⟩ := hK
  subst e
  intro H locs ls hP hS hl
  have hKn := hK.1 ci _ hc
  refine W.newcK hx hb hown (hts _ hlk) (hts _ hins) (hts _ hini) rfl hdg hcs.1 hcs.2 hKn.2.1 (hP.1.trans (by rw [hn])) fun H1 kC hkC e1 z1 o1 => ?_
  have hz : H.size = b + n := hP.1.trans (by rw [hn])
  exact k H1 locs ls (hq_push hP hn (by rw [z1, hz]) (fun q h => o1 q (hz ▸ h)) ⟨_, hc, (u_born ty hts hin hKn hkC e1 hty).to hfs⟩) ⟨Nat.le_trans hS.1 (by rw [z1, hz]; omega), fun x h1 h2 => (o1 x (hz ▸ Nat.lt_of_lt_of_le h1 hS.1)).trans (hS.2.1 x h1 h2), hS.2.2⟩ hl
theorem i_newa (h0 : LX own cc nL rm X) (hK : KI D cl tys X) {atype : ArrayType} (t0 : Nat) {cA : ClassId} (ht : tys[t0]? = some (cA, newarray.typeOf atype)) (hra : va_RA X.2.2.2.2.1 cA (newarray.typeOf atype) → X.2.2.2.2.1.vm.findClass ("[" ++ (newarray.typeOf atype).toString) = some cA) (hdv : defaultValue (newarray.typeOf atype) = .int 0) (harr : Cond.arrayClass (newarray.typeOf atype) ∈ GW) {x : Int32} {N n : Nat} (hx0 : ¬ x < 0) (hN : x.toNatClampNeg = N) (hby : N * componentBytes (newarray.typeOf atype) ≤ 536870912) (hcs : cn + 1 ≤ rm.cells ∧ sn + N ≤ rm.slots) (hn : es.length = n) (hdg : decode cc pc = .ok (.newarray atype, 2)) (e : pc + 2 = pc')
    (k : LV X A nL (cn + 1) (sn + N) (hq D cl b (es ++ [.inl (cA, N, .inl (fun _ => 0))])) L pc' (.ref (b + n) :: st)) : LV X A nL cn sn (hq D cl b es) L pc (.int x :: st) := by
  obtain ⟨p, l, en, R, s, m, args, below, meth, c, Q⟩ := X
  obtain ⟨hx, hb, hml, hown, hts, hN', hlk', rfl⟩ := h0
  obtain ⟨hK, -⟩ := hK
  subst e
  intro H locs ls hP hS hl
  have hz : H.size = b + n := hP.1.trans (by rw [hn])
  refine va_newaK hx hb (hts _ harr) rfl hdg rfl hx0 hN hby hcs.1 hcs.2 hz fun H1 cA' e1 z1 o1 hAr hNm => ?_
  have hcA : cA' = cA := Option.some.inj (hNm.symm.trans (hra (hK.2 t0 _ ht).2))
  subst hcA
  refine k H1 locs ls (hq_push hP hn (by rw [z1, hz]) (fun q h => o1 q (hz ▸ h)) ?_) ⟨Nat.le_trans hS.1 (by rw [z1, hz]; omega), fun x h1 h2 => (o1 x (hz ▸ Nat.lt_of_lt_of_le h1 hS.1)).trans (hS.2.1 x h1 h2), hS.2.2⟩ hl
  rw [hdv] at e1
  exact e1
theorem i_anew (h0 : LX own cc nL rm X) (hK : KI D cl tys X) (t0 : Nat) {C : String} {idx : Nat} {cA : ClassId} (ht : tys[t0]? = some (cA, .object C)) (hlk : Cond.classLink own idx C ∈ GW) (hov : C = "Greenwave$Junction") {x : Int32} {N n : Nat} (hx0 : ¬ x < 0) (hN : x.toNatClampNeg = N) (hby : N * 4 ≤ 536870912) (hcs : cn + 1 ≤ rm.cells ∧ sn + N ≤ rm.slots) (hn : es.length = n) (hdg : decode cc pc = .ok (.anewarray idx, 3)) (e : pc + 3 = pc')
    (k : LV X A nL (cn + 1) (sn + N) (hq D cl b (es ++ [.inl (cA, N, .inr (.inr (.inr (.inr (fun _ => none)))))])) L pc' (.ref (b + n) :: st)) : LV X A nL cn sn (hq D cl b es) L pc (.int x :: st) := by
  obtain ⟨p, l, en, R, s, m, args, below, meth, c, Q⟩ := X
  obtain ⟨hx, hb, hml, hown, hts, hN', hlk', rfl⟩ := h0
  obtain ⟨hK, -, hO⟩ := hK
  subst hov
  subst e
  subst hN
  intro H locs ls hP hS hl
  have hz : H.size = b + n := hP.1.trans (by rw [hn])
  refine W.anew hx hb hown (hts _ hlk) (va_AO.use hO) rfl hdg rfl hx0 hby hcs.1 hcs.2 fun cA' kA comp f1 f2 f3 f4 => ?_
  obtain ⟨kA', comp', g1, g2, g3, g4⟩ := (hK.2 t0 _ ht).2
  have hcA : cA' = cA := Option.some.inj (f1.symm.trans g4)
  subst hcA
  generalize hH1 : H.push ({ cls := cA', slots := Array.replicate x.toNatClampNeg .null, vm := .none } : Cell) = H1
  have z1 : H1.size = H.size + 1 := by rw [← hH1, Array.size_push]
  have e1 : H1[H.size]? = some (arrV cA' x.toNatClampNeg (fun _ => .null)) := by rw [← hH1, Array.getElem?_push_size, ← arrV_new]
  have o1 : ∀ q : Nat, q < H.size → H1[q]? = H[q]? := fun q hq => by rw [← hH1, Array.getElem?_push, if_neg (Nat.ne_of_lt hq)]
  rw [hz]
  refine k H1 locs ls (hq_push hP hn z1 o1 ?_) ⟨Nat.le_trans hS.1 (by rw [z1]; omega), fun x h1 h2 => (o1 x (Nat.lt_of_lt_of_le h1 hS.1)).trans (hS.2.1 x h1 h2), hS.2.2⟩ hl
  rw [hz] at e1
  exact e1
theorem i_get (h0 : LX own cc nL rm X) (hK : KI D cl tys X) (j : Nat) {ci N idx : Nat} {C ref : String} {T : u_T} {fs : List Value} {v : Value} (hj : es[j]? = some (.inr (ci, fs))) (hc : cl[ci]? = some (C, T, N)) (hin : ∀ t ∈ u_ws C T N, t ∈ GW) (f : Nat) (hf : f < N) (hlink : Cond.fieldLink own idx ref (T f).2.1 (T f).2.2.1 ∈ GW) (href : ref = (T f).1) (hv : fs[f]? = some v) (hdg : decode cc pc = .ok (.getfield idx, 3)) (e : pc + 3 = pc')
    (k : LV X A nL cn sn (hq D cl b es) L pc' (v :: st)) : LV X A nL cn sn (hq D cl b es) L pc (.ref (b + j) :: st) := by
  obtain ⟨p, l, en, R, s, m, args, below, meth, c, Q⟩ := X
  obtain ⟨hx, hb, hml, hown, hts, hN', hlk', rfl⟩ := h0
  obtain ⟨hK, -⟩ := hK
  subst e
  subst href
  intro H locs ls hP hS hl
  exact va_get (D := D) hx hb hts hin hown hK (hq_one hP hj) 0 rfl hc f hf (hts _ hlink) (fun _ h9 => h9) hv hdg (k H locs ls hP hS hl)
theorem i_put (h0 : LX own cc nL rm X) (hK : KI D cl tys X) (hA : ∀ q, b ≤ q → A q) (j : Nat) {ci N idx : Nat} {C ref : String} {T : u_T} {fs : List Value} {v : Value} (hj : es[j]? = some (.inr (ci, fs))) (hc : cl[ci]? = some (C, T, N)) (hin : ∀ t ∈ u_ws C T N, t ∈ GW) (ty0 : Nat → FieldType) (hty : ∀ k, k < N → parseFieldDescriptor (T k).2.2.1 = some (ty0 k)) (hnm : ∀ a, a < N → ∀ b, b < N → a ≠ b → (T a).2.1 ≠ (T b).2.1) (f : Nat) (hf : f < N) (hlink : Cond.fieldLink own idx ref (T f).2.1 (T f).2.2.1 ∈ GW) (href : ref = (T f).1) (hfin : (T f).2.2.2 = true) (hdecl : (T f).1 = own) (hn : narrow (ty0 f) v = v) (hfit : fits (ty0 f) v = true) (hl : f < fs.length) (he : es.set j (.inr (ci, fs.set f v)) = es') (hdg : decode cc pc = .ok (.putfield idx, 3)) (e : pc + 3 = pc')
    (k : LV X A nL cn sn (hq D cl b es') L pc' st) : LV X A nL cn sn (hq D cl b es) L pc (v :: .ref (b + j) :: st) := by
  obtain ⟨p, l, en, R, s, m, args, below, meth, c, Q⟩ := X
  obtain ⟨hx, hb, hml, hown, hts, hN', hlk', rfl⟩ := h0
  obtain ⟨hK, hin2, -⟩ := hK
  subst e
  subst href
  subst he
  intro H locs ls hP hS0 hl0
  have hap := va_apart (own := own) hts hin ty0 hty hnm hK hc
  obtain ⟨r, h1, cell, q1, q2, q3, q4⟩ := hP.2 j _ hj
  have hr : r = (C, T, N) := Option.some.inj (h1.symm.trans hc)
  subst hr
  obtain ⟨hS, hfc, kC, hkC, hkind⟩ := hK.1 ci _ hc
  obtain ⟨cf, kf, fi, fd, hi, hsl⟩ := hS f hf
  have hlay := hts _ (hin _ (u_in_lay hf))
  unfold u_lay at hlay
  rw [if_pos hfin] at hlay
  have hst := (u_facts hfc hkC (u_lays hts hin hf) hi).1
  have hcf : m.cls = cf := by
    obtain ⟨_, _, c', _, _, _, -, -, hf', -, -, -, hown2, -⟩ := Cond.laysFinal_spec hlay
    have e1 : c' = cf := by have := hi.symm.trans hf'; simp at this; exact this.1.symm
    rw [hdecl] at hown2
    rw [← e1]; exact Option.some.inj (hown.symm.trans hown2)
  have h6 := u_fits hfc hkC hkind (Or.inr hlay) hi (hty f hf) hn hfit
  refine W.putFinK hx hb hown (hts _ hlink) hi hst hcf hin2 (by rw [q2]; exact h6) q1 q3 (by rw [hsl]; exact k2_hasslot (q4 f hf)) rfl rfl hdg fun H' e1 e2 e3 => ?_
  rw [hsl] at e1 ⊢
  exact k H' _ ls (hq_set hP e2 e3 ⟨_, hc, t_OB.to (V := updV (vp_V fs) f v) ⟨_, e1, q2, q3, t_set q4 hap hf v⟩ (fun j _ => vp_updV_set hl v j)⟩) (hS0.put e2 e3 (hA _ (Nat.le_add_right b j))) hl0
theorem i_alen (h0 : LX own cc nL rm X) (hK : KI D cl tys X) (j t0 : Nat) {cA : ClassId} {x : vp_A} {ty : FieldType} {v : Int32} (hj : es[j]? = some (.inl (cA, x))) (ht : tys[t0]? = some (cA, ty)) (hv : Int32.ofNat x.1 = v) (hdg : decode cc pc = .ok (.arraylength, 1)) (e : pc + 1 = pc')
    (k : LV X A nL cn sn (hq D cl b es) L pc' (.int v :: st)) : LV X A nL cn sn (hq D cl b es) L pc (.ref (b + j) :: st) := by
  obtain ⟨p, l, en, R, s, m, args, below, meth, c, Q⟩ := X
  obtain ⟨hx, hb, hml, hown, hts, hN', hlk', rfl⟩ := h0
  obtain ⟨hK, -⟩ := hK
  subst e
  intro H locs ls hP hS hl
  exact va_alen (D := D) hx hb hK (hq_one hP hj) 0 t0 rfl ht hv hdg (k H locs ls hP hS hl)
theorem i_aast (h0 : LX own cc nL rm X) (hK : KI D cl tys X) (hA : ∀ q, b ≤ q → A q) (j j2 t0 : Nat) {cA : ClassId} {r : vw_C} {n ci : Nat} {vs : List Value} {f : Nat → Option Nat} (hj : es[j]? = some (.inl (cA, n, .inr (.inr (.inr (.inr f)))))) (hj2 : es[j2]? = some (.inr (ci, vs))) (ht : tys[t0]? = some (cA, .object r.1)) (hc : cl[ci]? = some r) {i : Int32} (hin : inb i n = true) (he : es.set j (.inl (cA, n, .inr (.inr (.inr (.inr (va_up f i.toNatClampNeg (some (b + j2)))))))) = es') (hdg : decode cc pc = .ok (.aastore, 1)) (e : pc + 1 = pc')
    (k : LV X A nL cn sn (hq D cl b es') L pc' st) : LV X A nL cn sn (hq D cl b es) L pc (.ref (b + j2) :: .int i :: .ref (b + j) :: st) := by
  obtain ⟨p, l, en, R, s, m, args, below, meth, c, Q⟩ := X
  obtain ⟨hx, hb, hml, hown, hts, hN', hlk', rfl⟩ := h0
  obtain ⟨hK, -⟩ := hK
  subst e
  subst he
  intro H locs ls hP hS hl
  have hin := inb_in hin
  have hlt : i.toNatClampNeg < n := Nat.not_le.mp fun q => hin (Or.inr q)
  have h0 : ¬ i < 0 := fun q => hin (Or.inl q)
  obtain ⟨r', hr', cellV, g1, g2, g3, -⟩ := hP.2 j2 _ hj2
  have hcls := (hK.1 ci r hc).2
  obtain ⟨kA, comp, k1, k2, k3, -⟩ := (hK.2 t0 _ ht).2
  have hcomp : comp = D.1 ci := Option.some.inj (k3.symm.trans hcls.1)
  subst hcomp
  obtain ⟨kC, hkC, -⟩ := hcls.2
  refine W.aast hx hb (hP.2 j _ hj) (fun q h => by cases h) (fun h => by cases h) k1 k2 rfl hkC ⟨h0, by show _ < (arrV _ _ _).slots.size; rw [arrV_size]; exact hlt⟩ g1 (fun q h => by rw [g3] at h; cases h) (by rw [g2]; exact hkC) (by rw [g2]; exact va_assign hcls) rfl rfl hdg fun H1 e z oq => ?_
  refine k H1 _ ls (hq_set hP z oq ?_) (hS.put z oq (hA _ (Nat.le_add_right b j))) hl
  show H1[_]? = some (vp_cell _ _)
  rw [e]
  rw [vp_cell_q, vp_cell_q, arrV_store]
  congr 2
  funext q
  by_cases hq : q = i.toNatClampNeg
  · subst hq
    simp [updV, va_up, va_rf]
  · simp [updV, va_up, hq]
/-- a constructor called for the last cell -/
theorem i_call (h0 : LX own cc nL rm X) (hK : KI D cl tys X) (hA : ∀ q, b ≤ q → A q) {idx maxL n np : Nat} {y : MethodName} {bytes : ByteArray} {rc : Room} {mc1 ms1 : Nat} {es1 : List va_E} {e0 : va_E} (hl : Cond.methodLink own idx y ∈ GW ∨ ∃ host, Cond.methodLinkNest own idx y host ∈ NW) (hi : Cond.instanceMethod y ∈ GW) (hc : Cond.code y bytes maxL none ∈ GW) (hini : Cond.initialized y.cls ∈ GW) (hyn : y.name = "<init>") (hd : plainY y np) (As rest : List Value) (hM : ctI y bytes maxL rc mc1 ms1 D cl tys (b + n) (.ref (b + n) :: As) [e0] (hq D cl (b + n) es1)) (hst : st = As.reverse ++ .ref (b + n) :: rest) (hnp : As.length = np) (hn : es.length = n) (hdg : decode cc pc = .ok (.invokespecial idx, 3)) (e : pc + 3 = pc') (hW : (rest.map fun v => v.category).sum ≤ 8) (hR : rc.cells = mc1 ∧ rc.slots = ms1 ∧ rc.frames + 1 ≤ rm.frames ∧ 8 + (maxL + 11) + rc.locals ≤ rm.locals) (hcs : cn + mc1 ≤ rm.cells ∧ sn + ms1 ≤ rm.slots)
    (k : LV X A nL (cn + mc1) (sn + ms1) (hq D cl b (es ++ es1)) L pc' rest) : LV X A nL cn sn (hq D cl b (es ++ [e0])) L pc st := by
  obtain ⟨p, l, en, R, s, m, args, below, meth, c, Q⟩ := X
  obtain ⟨hx, hb, hml, hown, hts, hN, hlk', rfl⟩ := h0
  obtain ⟨hK, -, hO⟩ := hK
  subst e
  subst hst
  intro H locs ls hP hS hls
  have hsz : H.size = b + n + 1 := by rw [hP.1, List.length_append, hn]; rfl
  have hsub : hq D cl (b + n) [e0] H := ⟨by rw [hsz]; rfl, fun i x hx => by
    have hz : i < 1 := (List.getElem?_eq_some_iff.mp hx).1
    have hi0 : i = 0 := by omega
    subst hi0
    cases hx
    exact hP.2 n e0 (by rw [List.getElem?_append_right (by omega), hn, Nat.sub_self]; rfl)⟩
  have hpre : ∀ U : State, U.heap = H → s.WarmedH U.vm → PI D cl tys (b + n) [e0] (.ref (b + n) :: As) (Value.ref (b + n) :: As).toArray U := fun U hU hW => ⟨rfl, by rw [hU]; exact hsub, va_K.moved hW.alike hK, nw_warm hW hN, va_AO.moved hW.alike hO⟩
  have hrun : va_Run p l en R s m args below meth c H locs cn sn mc1 ms1 (F0 m pc ls (As.reverse ++ .ref (b + n) :: rest)) rest (Qo none (hq D cl (b + n) es1) (fun q => b + n ≤ q) (Value.ref (b + n) :: As).toArray) (fun q => b + n ≤ q) := by
    rcases hl with hl | ⟨host, hl⟩
    · exact va_runI (As := As) (rest := rest) ⟨hx, hb, hml, hown, hts⟩ (hM l) ⟨callB_of np hts (goodGW hc) rfl hR.1 hR.2.1 (hts _ hini) (hts _ hl) hd ⟨hR.2.2.1, hR.2.2.2⟩, hyn, hts _ hi⟩ ⟨pi_blind, hpre⟩ rfl hnp hls.1 rfl (lv_room hW) hdg hcs
    · exact va_runIN (As := As) (rest := rest) ⟨hx, hb, hml, hown, hts⟩ (hM l) ⟨va_cnB np hts (goodGW hc) rfl hR.1 hR.2.1 (hN _ hl) (hts _ hini) hd ⟨hR.2.2.1, hR.2.2.2⟩, hyn, hts _ hi⟩ ⟨pi_blind, hpre⟩ rfl hnp hls.1 rfl (lv_room hW) hdg hcs
  intro T hT X
  obtain ⟨v, st₀, t, T', Lo, h0, X', hL, e1, e2, ⟨⟨hv, hb1⟩, hz, hk⟩, st⟩ := hrun T hT X
  cases hv
  rw [h0] at hz hk
  obtain ⟨t2, a1, b1⟩ := k T'.heap (locs ++ Lo) ls (by
      rw [e1]
      refine ⟨by rw [hb1.1, List.length_append, hn]; omega, fun i x hx => ?_⟩
      by_cases hi : i < es.length
      · rw [List.getElem?_append_left hi] at hx
        refine (hP.2 i x (by rw [List.getElem?_append_left hi]; exact hx)).kept (hk _ ?_ ?_)
        · show b + i < _; omega
        · show ¬ b + n ≤ b + i; omega
      · rw [List.getElem?_append_right (by omega)] at hx
        have := hb1.2 _ x hx
        rw [show b + n + (i - es.length) = b + i by omega] at this
        exact this)
    ⟨Nat.le_trans hS.1 (by rw [e1]; exact hz), fun q h1 h2 => by rw [e1, hk q (Nat.lt_of_lt_of_le h1 hS.1) (fun z => h2 (hA q (by omega)))]; exact hS.2.1 q h1 h2, fun q hq => by
      rcases List.mem_append.mp hq with h | h
      · exact hS.2.2 q h
      · exact hA _ (by have := hL q h; omega)⟩ hls T' rfl X'
  exact ⟨t2, st t2 a1, b1⟩
end CI
