/-! The world of one instance: objects and arrays of kinds c, each kind's numbered k; a memory of ints and longs; a judgement GV over pure data. -/
abbrev Mem : Type := (Nat → Nat → Nat → Int32) × (Nat → Nat → Nat → Int64)
def wI (S : Mem) (c k j : Nat) (v : Int32) : Mem := (fun a b i => if a = c ∧ b = k ∧ i = j then v else S.1 a b i, S.2)
def wL (S : Mem) (c k j : Nat) (v : Int64) : Mem := (S.1, fun a b i => if a = c ∧ b = k ∧ i = j then v else S.2 a b i)
def nb (x : Int32) : Int32 := x &&& 1
def inb (i : Int32) (n : Nat) : Bool := decide (0 ≤ i.toInt ∧ i.toInt < n)
def gd {α : Type} (b : Bool) (a : Option α) : Option α := if b = true then a else none
def b1 {α β : Type} (a : Option α) (K : α → Option β) : Option β := match a with
  | some r => K r
  | none => none
def b2 {α β : Type} (a : Option (α × Mem)) (K : α → Mem → Option β) : Option β := match a with
  | some r => K r.1 r.2
  | none => none
theorem gd_some {α : Type} {b : Bool} {a : Option α} {y : α} (h : gd b a = some y) : b = true ∧ a = some y := by
  unfold gd at h
  by_cases hb : b = true
  · rw [if_pos hb] at h
    exact ⟨hb, h⟩
  · rw [if_neg hb] at h
    cases h
theorem b1_some {α β : Type} {a : Option α} {K : α → Option β} {y : β} (h : b1 a K = some y) : ∃ r, a = some r ∧ K r = some y := by
  cases a with
  | none => cases h
  | some r => exact ⟨r, rfl, h⟩
theorem b2_some {α β : Type} {a : Option (α × Mem)} {K : α → Mem → Option β} {y : β} (h : b2 a K = some y) : ∃ r S, a = some (r, S) ∧ K r S = some y := by
  cases a with
  | none => cases h
  | some r => exact ⟨r.1, r.2, rfl, h⟩
theorem inb_in {i : Int32} {n : Nat} (h : inb i n = true) : vp_in i n := vp_in_iff.mpr (of_decide_eq_true h)
abbrev WX : Type := va_G × List vw_C × List (ClassId × FieldType) × ((Nat → Int32) → (Nat → Int64) → Nat → Nat → va_E) × (Nat → Nat) × (Nat → Nat → Nat)
def wD (w : WX) : va_G := w.1
def wCl (w : WX) : List vw_C := w.2.1
def wTy (w : WX) : List (ClassId × FieldType) := w.2.2.1
def wCe (w : WX) : (Nat → Int32) → (Nat → Int64) → Nat → Nat → va_E := w.2.2.2.1
def wN (w : WX) : Nat → Nat := w.2.2.2.2.1
def wA (w : WX) : Nat → Nat → Nat := w.2.2.2.2.2
def hp (w : WX) (S : Mem) (H : Heap) : Prop := ∀ c k : Nat, k < wN w c → va_at (wD w) (wCl w) (wA w c k, wCe w (S.1 c k) (S.2 c k) c k) H
def wok (w : WX) : Prop := ∀ c k c' k' : Nat, k < wN w c → k' < wN w c' → wA w c k = wA w c' k' → c = c' ∧ k = k'
def AA (w : WX) (sz : Nat) : Nat → Prop := fun q => (∃ c k : Nat, k < wN w c ∧ q = wA w c k) ∨ sz ≤ q
theorem hp_one {w : WX} {S : Mem} {H : Heap} {ck k : Nat} {x : va_E} (hP : hp w S H) (hk : k < wN w ck) (he : wCe w (S.1 ck k) (S.2 ck k) ck k = x) : va_P (wD w) (wCl w) [(wA w ck k, x)] H := by
  intro i q hi
  have hz : i < 1 := (List.getElem?_eq_some_iff.mp hi).1
  have hi0 : i = 0 := by omega
  subst hi0
  cases hi
  rw [← he]
  exact hP ck k hk
theorem hp_put {w : WX} {S S' : Mem} {H H1 : Heap} {ck k : Nat} (hw : wok w) (h : hp w S H) (hk : k < wN w ck) (hS : ∀ c' k' : Nat, ¬ (c' = ck ∧ k' = k) → S'.1 c' k' = S.1 c' k' ∧ S'.2 c' k' = S.2 c' k') (he : va_at (wD w) (wCl w) (wA w ck k, wCe w (S'.1 ck k) (S'.2 ck k) ck k) H1) (oq : ∀ q : Nat, q ≠ wA w ck k → H1[q]? = H[q]?) : hp w S' H1 := by
  intro c' k' hk'
  by_cases e : c' = ck ∧ k' = k
  · obtain ⟨rfl, rfl⟩ := e
    exact he
  · obtain ⟨e1, e2⟩ := hS c' k' e
    rw [e1, e2]
    exact (h c' k' hk').kept (oq _ (fun z => e (hw c' k' ck k hk' hk z)))
theorem wI_off {S : Mem} {c k j : Nat} {v : Int32} (c' k' : Nat) (h : ¬ (c' = c ∧ k' = k)) : (wI S c k j v).1 c' k' = S.1 c' k' ∧ (wI S c k j v).2 c' k' = S.2 c' k' := by
  refine ⟨?_, rfl⟩
  funext i
  show (if c' = c ∧ k' = k ∧ i = j then v else S.1 c' k' i) = _
  rw [if_neg (fun q => h ⟨q.1, q.2.1⟩)]
theorem wL_off {S : Mem} {c k j : Nat} {v : Int64} (c' k' : Nat) (h : ¬ (c' = c ∧ k' = k)) : (wL S c k j v).1 c' k' = S.1 c' k' ∧ (wL S c k j v).2 c' k' = S.2 c' k' := by
  refine ⟨rfl, ?_⟩
  funext i
  show (if c' = c ∧ k' = k ∧ i = j then v else S.2 c' k' i) = _
  rw [if_neg (fun q => h ⟨q.1, q.2.1⟩)]
theorem wI_on {S : Mem} {c k j : Nat} {v : Int32} : (wI S c k j v).1 c k = upd (S.1 c k) j v := by
  funext i
  show (if c = c ∧ k = k ∧ i = j then v else S.1 c k i) = if i = j then v else S.1 c k i
  by_cases h : i = j
  · rw [if_pos h, if_pos ⟨rfl, rfl, h⟩]
  · rw [if_neg h, if_neg (fun q => h q.2.2)]
theorem wL_on {S : Mem} {c k j : Nat} {v : Int64} : (wL S c k j v).2 c k = vp_updL (S.2 c k) j v := by
  funext i
  show (if c = c ∧ k = k ∧ i = j then v else S.2 c k i) = if i = j then v else S.2 c k i
  by_cases h : i = j
  · rw [if_pos h, if_pos ⟨rfl, rfl, h⟩]
  · rw [if_neg h, if_neg (fun q => h q.2.2)]
/-- the tables' words that stay good, and those of nest mates -/
def GW : List Cond := lw_tbl.filter goodWord
def isNest : Cond → Bool
  | .fieldLinkNest .. => true
  | .methodLinkNest .. => true
  | _ => false
def NW : List Cond := lw_tbl.filter isNest
theorem gw_of {i : Nat} {w : Cond} (h : lw_tbl[i]? = some w) (hg : goodWord w = true) : w ∈ GW := List.mem_filter.mpr ⟨List.mem_of_getElem? h, hg⟩
theorem nw_of {i : Nat} {w : Cond} (h : lw_tbl[i]? = some w) (hg : isNest w = true) : w ∈ NW := List.mem_filter.mpr ⟨List.mem_of_getElem? h, hg⟩
theorem goodGW {y : MethodName} {cc : ByteArray} {n : Nat} {ret : Option FieldType} (h : Cond.code y cc n ret ∈ GW) : GoodIn GW (.code y cc n ret :: GW) := by
  intro w hw
  have hw' : w ∈ GW := by
    rcases List.mem_cons.mp hw with e | e
    · rw [e]; exact h
    · exact e
  exact ⟨hw', good_of_word (List.mem_filter.mp hw').2⟩
theorem nw_warm {s U : State} (hW : s.WarmedH U.vm) (h : ∀ t ∈ NW, va_Nw t s) : ∀ t ∈ NW, va_Nw t U := by
  intro t ht
  have h1 := h t ht
  have h2 : isNest t = true := (List.mem_filter.mp ht).2
  cases t <;> first
    | exact va_Nw.warmF hW h1
    | exact va_Nw.warmM hW h1
    | cases h2
theorem nw_calling {U : State} {g : JFrame} {mk : MethodId} {a : Array Value} (h : ∀ t ∈ NW, va_Nw t U) : ∀ t ∈ NW, va_Nw t (U.calling g mk a) := by
  intro t ht
  have h1 := h t ht
  have h2 : isNest t = true := (List.mem_filter.mp ht).2
  cases t <;> first
    | exact va_Nw.same rfl (rfl : U.vm = (U.calling g mk a).vm) h1
    | cases h2
abbrev MX : Type := Program × Launch × Env × Room × State × MethodId × Array Value × List Frame × Method × Code × (State → Prop)
/-- from every heap that holds the memory, and locals that hold the list, the machine comes from here to the end that X asks -/
def GV (X : MX) (w : WX) (nL cn sn : Nat) (S : Mem) (L : List (Nat × Value)) (pc : Nat) (st : List Value) : Prop := match X with
  | (p, l, e, R, s, m, args, below, meth, c, Q) => ∀ (H : Heap) (locs : List Loc) (ls : Array Slot), hp w S H → va_S (AA w s.heap.size) s.heap H locs → lv_has ls nL L → W p l e R s m args below meth c H locs cn sn Q (F0 m pc ls st)
def CX (own : String) (cc : ByteArray) (nL : Nat) (rm : Room) (X : MX) (w : WX) : Prop := match X with
  | (p, _, _, R, s, m, args, _, meth, c, _) => p.tables.exec = Jvm.exec ∧ c.code = cc ∧ c.maxLocals = nL ∧ s.vm.findClass own = some m.cls ∧ (∀ t ∈ GW, t.before args s = true) ∧ va_K (wD w) (wCl w) (wTy w) s ∧ meth.locks = false ∧ wok w ∧ (∀ t ∈ NW, va_Nw t s) ∧ R = rm
def PCx (w : WX) (av : List Value) (S : Mem) (sz : Nat) : Array Value → State → Prop := va_Pc av (fun U => U.heap.size = sz ∧ hp w S U.heap ∧ va_K (wD w) (wCl w) (wTy w) U ∧ (∀ t ∈ NW, va_Nw t U) ∧ wok w)
theorem pc_blind {w : WX} {av : List Value} {S : Mem} {sz : Nat} : FrameBlind (PCx w av S sz) := by
  intro a U g mk h
  obtain ⟨h1, h2, h3, h4, h5, h6⟩ := h
  exact ⟨h1, h2, h3, va_K.moved (u := U) (U := U.calling g mk a) (Vm.Alike.refl U.vm) h4, nw_calling h5, h6⟩
def Qo (o : Option Value) (B : Heap → Prop) (A : Nat → Prop) : Array Value → State → Outcome → State → Prop := fun _ st oc t => (oc = .returned o ∧ B t.heap) ∧ va_F A st t
/-- THE CONTRACT of a method that returns: from a heap that holds S it returns o, and the heap holds S' -/
def ctN (y : MethodName) (cc : ByteArray) (nL : Nat) (ret : Option FieldType) (rm : Room) (w : WX) (av : List Value) (S : Mem) (o : Option Value) (S' : Mem) : Prop :=
  ∀ (l : Launch) (sz : Nat), Met l y (.code y cc nL ret :: GW) rm (PCx w av S sz) (Qo o (hp w S') (AA w sz)) 0 0 (AA w sz)
def EN (ret : Option FieldType) (o : Option Value) (S' : Mem) (X : MX) (w : WX) : Prop := match X with
  | (_, _, _, _, s, _, args, below, meth, _, Q) => meth.sig.returnType = ret ∧ Q = MQ below (Qo o (hp w S') (AA w s.heap.size)) args s 0 0 (AA w s.heap.size)
theorem ct_of {own : String} {y : MethodName} {cc : ByteArray} {nL : Nat} {ret : Option FieldType} {rm : Room} {w : WX} {av : List Value} {S S' : Mem} {o : Option Value} {L : List (Nat × Value)} (hy : plainName y.cls = true) (hyo : y.cls = own) (hn : (lg_sl av).length ≤ nL) (hL : lv_args 0 av = L)
    (body : ∀ X, CX own cc nL rm X w → EN ret o S' X w → GV X w nL 0 0 S L 0 []) : ctN y cc nL ret rm w av S o S' := by
  intro l sz
  refine Met.ofW (cc := cc) (maxL := nL) (ret := ret) hy rfl ?_
  intro p e s m args below meth c s₁ B hml hv
  obtain ⟨rfl, rfl, hP, hK, hN, hw⟩ := hv
  have hown : s.vm.findClass own = some m.cls := by
    rw [← hyo]
    exact findClass_of_methodNamed B.named
  have hts : ∀ t ∈ GW, t.before av.toArray s = true := fun t ht => atoms_spec (ws := .code y cc nL ret :: GW) B.pre t (List.mem_cons_of_mem _ ht)
  have hb := body (p, l, e, rm, s, m, av.toArray, below, meth, c, MQ below (Qo o (hp w S') (AA w s.heap.size)) av.toArray s 0 0 (AA w s.heap.size)) ⟨B.exec, B.bytes, hml, hown, hts, hK, B.notSynchronized, hw, hN, rfl⟩ ⟨B.returns, rfl⟩
  have hl := lv_entry av (n := nL) hn
  rw [lg_entry_eq]
  rw [hL] at hl
  exact hb s.heap [] _ hP va_S.rf hl
section RW
variable {own : String} {cc : ByteArray} {nL : Nat} {rm : Room} {X : MX} {w : WX} {cn sn : Nat} {S : Mem} {L L' : List (Nat × Value)} {pc pc' : Nat} {st : List Value}
theorem r_iconst (h0 : CX own cc nL rm X w) {n : Int} {v : Int32} (hdg : decode cc pc = .ok (.iconst n, 1)) (hv : Int32.ofInt n = v) (e : pc + 1 = pc') (k : GV X w nL cn sn S L pc' (.int v :: st)) : GV X w nL cn sn S L pc st := by
  obtain ⟨p, l, en, R, s, m, args, below, meth, c, Q⟩ := X
  obtain ⟨hx, hb, -⟩ := h0
  subst e
  intro H locs ls hP hS hl
  exact lv_iconst hx hb hdg hv (k H locs ls hP hS hl)
theorem r_bipush (h0 : CX own cc nL rm X w) {n : Int} {v : Int32} (hdg : decode cc pc = .ok (.bipush n, 2)) (hv : (Int8.ofInt n).toInt32 = v) (e : pc + 2 = pc') (k : GV X w nL cn sn S L pc' (.int v :: st)) : GV X w nL cn sn S L pc st := by
  obtain ⟨p, l, en, R, s, m, args, below, meth, c, Q⟩ := X
  obtain ⟨hx, hb, -⟩ := h0
  subst e
  intro H locs ls hP hS hl
  exact lv_bipush hx hb hdg hv (k H locs ls hP hS hl)
theorem r_sipush (h0 : CX own cc nL rm X w) {n : Int} {v : Int32} (hdg : decode cc pc = .ok (.sipush n, 3)) (hv : (Int16.ofInt n).toInt32 = v) (e : pc + 3 = pc') (k : GV X w nL cn sn S L pc' (.int v :: st)) : GV X w nL cn sn S L pc st := by
  obtain ⟨p, l, en, R, s, m, args, below, meth, c, Q⟩ := X
  obtain ⟨hx, hb, -⟩ := h0
  subst e
  intro H locs ls hP hS hl
  exact lv_sipush hx hb hdg hv (k H locs ls hP hS hl)
theorem r_ldc (h0 : CX own cc nL rm X w) {i : Nat} {v : Int32} (hw : Cond.constant own i v ∈ GW) (hdg : decode cc pc = .ok (.ldc i, 2)) (e : pc + 2 = pc') (k : GV X w nL cn sn S L pc' (.int v :: st)) : GV X w nL cn sn S L pc st := by
  obtain ⟨p, l, en, R, s, m, args, below, meth, c, Q⟩ := X
  obtain ⟨hx, hb, -, ho, ht, -⟩ := h0
  subst e
  intro H locs ls hP hS hl
  exact lv_ldc hx hb ho (ht _ hw) hdg (k H locs ls hP hS hl)
theorem r_ldc2 (h0 : CX own cc nL rm X w) {i : Nat} {v : Int64} (hw : Cond.constantLong own i v ∈ GW) (hdg : decode cc pc = .ok (.ldc2_w i, 3)) (e : pc + 3 = pc') (k : GV X w nL cn sn S L pc' (.long v :: st)) : GV X w nL cn sn S L pc st := by
  obtain ⟨p, l, en, R, s, m, args, below, meth, c, Q⟩ := X
  obtain ⟨hx, hb, -, ho, ht, -⟩ := h0
  subst e
  intro H locs ls hP hS hl
  exact lv_ldc2 hx hb ho (ht _ hw) hdg (k H locs ls hP hS hl)
theorem r_lconst (h0 : CX own cc nL rm X w) {n : Fin 2} {v : Int64} (hdg : decode cc pc = .ok (.lconst n, 1)) (hv : Int64.ofNat (n : Nat) = v) (e : pc + 1 = pc') (k : GV X w nL cn sn S L pc' (.long v :: st)) : GV X w nL cn sn S L pc st := by
  obtain ⟨p, l, en, R, s, m, args, below, meth, c, Q⟩ := X
  obtain ⟨hx, hb, -⟩ := h0
  subst e
  intro H locs ls hP hS hl
  exact lv_lconst hx hb hdg hv (k H locs ls hP hS hl)
theorem r_iload_n (h0 : CX own cc nL rm X w) (q : Nat) {n : Fin 4} {i : Nat} {x : Int32} (hdg : decode cc pc = .ok (.iload_n n, 1)) (hi : (n : Nat) = i) (hq : L[q]? = some (i, .int x)) (e : pc + 1 = pc') (k : GV X w nL cn sn S L pc' (.int x :: st)) : GV X w nL cn sn S L pc st := by
  obtain ⟨p, l, en, R, s, m, args, below, meth, c, Q⟩ := X
  obtain ⟨hx, hb, -⟩ := h0
  subst e
  intro H locs ls hP hS hl
  exact lv_iload_n hx hb hdg hi (lv_at hl q hq) (k H locs ls hP hS hl)
theorem r_iload (h0 : CX own cc nL rm X w) (q : Nat) {i : Nat} {x : Int32} (hdg : decode cc pc = .ok (.iload i, 2)) (hq : L[q]? = some (i, .int x)) (e : pc + 2 = pc') (k : GV X w nL cn sn S L pc' (.int x :: st)) : GV X w nL cn sn S L pc st := by
  obtain ⟨p, l, en, R, s, m, args, below, meth, c, Q⟩ := X
  obtain ⟨hx, hb, -⟩ := h0
  subst e
  intro H locs ls hP hS hl
  exact lv_iload hx hb hdg (lv_at hl q hq) (k H locs ls hP hS hl)
theorem r_lload_n (h0 : CX own cc nL rm X w) (q : Nat) {n : Fin 4} {i : Nat} {x : Int64} (hdg : decode cc pc = .ok (.lload_n n, 1)) (hi : (n : Nat) = i) (hq : L[q]? = some (i, .long x)) (e : pc + 1 = pc') (k : GV X w nL cn sn S L pc' (.long x :: st)) : GV X w nL cn sn S L pc st := by
  obtain ⟨p, l, en, R, s, m, args, below, meth, c, Q⟩ := X
  obtain ⟨hx, hb, -⟩ := h0
  subst e
  intro H locs ls hP hS hl
  exact lv_lload_n hx hb hdg hi (lv_at hl q hq) (k H locs ls hP hS hl)
theorem r_aload_n (h0 : CX own cc nL rm X w) (q : Nat) {n : Fin 4} {i x : Nat} (hdg : decode cc pc = .ok (.aload_n n, 1)) (hi : (n : Nat) = i) (hq : L[q]? = some (i, .ref x)) (e : pc + 1 = pc') (k : GV X w nL cn sn S L pc' (.ref x :: st)) : GV X w nL cn sn S L pc st := by
  obtain ⟨p, l, en, R, s, m, args, below, meth, c, Q⟩ := X
  obtain ⟨hx, hb, -⟩ := h0
  subst e
  intro H locs ls hP hS hl
  exact lv_aload_n hx hb hdg hi (lv_at hl q hq) (k H locs ls hP hS hl)
theorem r_aload (h0 : CX own cc nL rm X w) (q : Nat) {i x : Nat} (hdg : decode cc pc = .ok (.aload i, 2)) (hq : L[q]? = some (i, .ref x)) (e : pc + 2 = pc') (k : GV X w nL cn sn S L pc' (.ref x :: st)) : GV X w nL cn sn S L pc st := by
  obtain ⟨p, l, en, R, s, m, args, below, meth, c, Q⟩ := X
  obtain ⟨hx, hb, -⟩ := h0
  subst e
  intro H locs ls hP hS hl
  exact lv_aload hx hb hdg (lv_at hl q hq) (k H locs ls hP hS hl)
theorem r_sub (ks : List Nat) (hl : lv_pick L ks = L') (k : GV X w nL cn sn S L' pc st) : GV X w nL cn sn S L pc st := by
  obtain ⟨p, l, en, R, s, m, args, below, meth, c, Q⟩ := X
  intro H locs ls hP hS hl0
  exact k H locs ls hP hS (lv_sub hl0 ks hl)
theorem r_istore_n (h0 : CX own cc nL rm X w) {n : Fin 4} {i : Nat} {x : Int32} (hdg : decode cc pc = .ok (.istore_n n, 1)) (hi : (n : Nat) = i) (hn : i < nL) (hl : (i, Value.int x) :: L.filter (fun q => !(q.1 == i) && !(q.1 + 1 == i && q.2.category == 2)) = L') (e : pc + 1 = pc') (k : GV X w nL cn sn S L' pc' st) : GV X w nL cn sn S L pc (.int x :: st) := by
  obtain ⟨p, l, en, R, s, m, args, below, meth, c, Q⟩ := X
  obtain ⟨hx, hb, -⟩ := h0
  subst e
  intro H locs ls hP hS hl0
  exact lv_istore_n hx hb hdg hi hl0 hn hl (fun ls' hl' => k H locs ls' hP hS hl')
theorem r_istore (h0 : CX own cc nL rm X w) {i : Nat} {x : Int32} (hdg : decode cc pc = .ok (.istore i, 2)) (hn : i < nL) (hl : (i, Value.int x) :: L.filter (fun q => !(q.1 == i) && !(q.1 + 1 == i && q.2.category == 2)) = L') (e : pc + 2 = pc') (k : GV X w nL cn sn S L' pc' st) : GV X w nL cn sn S L pc (.int x :: st) := by
  obtain ⟨p, l, en, R, s, m, args, below, meth, c, Q⟩ := X
  obtain ⟨hx, hb, -⟩ := h0
  subst e
  intro H locs ls hP hS hl0
  exact lv_istore hx hb hdg hl0 hn hl (fun ls' hl' => k H locs ls' hP hS hl')
theorem r_astore_n (h0 : CX own cc nL rm X w) {n : Fin 4} {i x : Nat} (hdg : decode cc pc = .ok (.astore_n n, 1)) (hi : (n : Nat) = i) (hn : i < nL) (hl : (i, Value.ref x) :: L.filter (fun q => !(q.1 == i) && !(q.1 + 1 == i && q.2.category == 2)) = L') (e : pc + 1 = pc') (k : GV X w nL cn sn S L' pc' st) : GV X w nL cn sn S L pc (.ref x :: st) := by
  obtain ⟨p, l, en, R, s, m, args, below, meth, c, Q⟩ := X
  obtain ⟨hx, hb, -⟩ := h0
  subst e
  intro H locs ls hP hS hl0
  exact lv_astore_n hx hb hdg hi hl0 hn hl (fun ls' hl' => k H locs ls' hP hS hl')
theorem r_astore (h0 : CX own cc nL rm X w) {i x : Nat} (hdg : decode cc pc = .ok (.astore i, 2)) (hn : i < nL) (hl : (i, Value.ref x) :: L.filter (fun q => !(q.1 == i) && !(q.1 + 1 == i && q.2.category == 2)) = L') (e : pc + 2 = pc') (k : GV X w nL cn sn S L' pc' st) : GV X w nL cn sn S L pc (.ref x :: st) := by
  obtain ⟨p, l, en, R, s, m, args, below, meth, c, Q⟩ := X
  obtain ⟨hx, hb, -⟩ := h0
  subst e
  intro H locs ls hP hS hl0
  exact lv_astore hx hb hdg hl0 hn hl (fun ls' hl' => k H locs ls' hP hS hl')
theorem r_lstore_n (h0 : CX own cc nL rm X w) {n : Fin 4} {i : Nat} {x : Int64} (hdg : decode cc pc = .ok (.lstore_n n, 1)) (hi : (n : Nat) = i) (hn : i + 1 < nL) (hl : (i, Value.long x) :: L.filter (fun q => !(q.1 == i) && (!(q.1 == i + 1) && !(q.1 + 1 == i && q.2.category == 2))) = L') (e : pc + 1 = pc') (k : GV X w nL cn sn S L' pc' st) : GV X w nL cn sn S L pc (.long x :: st) := by
  obtain ⟨p, l, en, R, s, m, args, below, meth, c, Q⟩ := X
  obtain ⟨hx, hb, -⟩ := h0
  subst e
  intro H locs ls hP hS hl0
  exact lv_lstore_n hx hb hdg hi hl0 hn hl (fun ls' hl' => k H locs ls' hP hS hl')
theorem r_iinc (h0 : CX own cc nL rm X w) (q : Nat) {i : Nat} {n : Int} {x v : Int32} (hdg : decode cc pc = .ok (.iinc i n, 3)) (hq : L[q]? = some (i, .int x)) (hv : Int32.ofInt n = v) (hn : i < nL) (hl : (i, Value.int (x + v)) :: L.filter (fun q => !(q.1 == i) && !(q.1 + 1 == i && q.2.category == 2)) = L') (e : pc + 3 = pc') (k : GV X w nL cn sn S L' pc' st) : GV X w nL cn sn S L pc st := by
  obtain ⟨p, l, en, R, s, m, args, below, meth, c, Q⟩ := X
  obtain ⟨hx, hb, -⟩ := h0
  subst e
  subst hv
  intro H locs ls hP hS hl0
  exact lv_iinc hx hb hdg hl0 hq rfl hn hl (fun ls' hl' => k H locs ls' hP hS hl')
theorem r_iadd (h0 : CX own cc nL rm X w) {x y : Int32} (hdg : decode cc pc = .ok (.iadd, 1)) (e : pc + 1 = pc') (k : GV X w nL cn sn S L pc' (.int (x + y) :: st)) : GV X w nL cn sn S L pc (.int y :: .int x :: st) := by
  obtain ⟨p, l, en, R, s, m, args, below, meth, c, Q⟩ := X
  obtain ⟨hx, hb, -⟩ := h0
  subst e
  intro H locs ls hP hS hl
  exact lv_iadd hx hb hdg (k H locs ls hP hS hl)
theorem r_isub (h0 : CX own cc nL rm X w) {x y : Int32} (hdg : decode cc pc = .ok (.isub, 1)) (e : pc + 1 = pc') (k : GV X w nL cn sn S L pc' (.int (x - y) :: st)) : GV X w nL cn sn S L pc (.int y :: .int x :: st) := by
  obtain ⟨p, l, en, R, s, m, args, below, meth, c, Q⟩ := X
  obtain ⟨hx, hb, -⟩ := h0
  subst e
  intro H locs ls hP hS hl
  exact lv_isub hx hb hdg (k H locs ls hP hS hl)
theorem r_imul (h0 : CX own cc nL rm X w) {x y : Int32} (hdg : decode cc pc = .ok (.imul, 1)) (e : pc + 1 = pc') (k : GV X w nL cn sn S L pc' (.int (x * y) :: st)) : GV X w nL cn sn S L pc (.int y :: .int x :: st) := by
  obtain ⟨p, l, en, R, s, m, args, below, meth, c, Q⟩ := X
  obtain ⟨hx, hb, -⟩ := h0
  subst e
  intro H locs ls hP hS hl
  exact lv_imul hx hb hdg (k H locs ls hP hS hl)
theorem r_iand (h0 : CX own cc nL rm X w) {x y : Int32} (hdg : decode cc pc = .ok (.iand, 1)) (e : pc + 1 = pc') (k : GV X w nL cn sn S L pc' (.int (x &&& y) :: st)) : GV X w nL cn sn S L pc (.int y :: .int x :: st) := by
  obtain ⟨p, l, en, R, s, m, args, below, meth, c, Q⟩ := X
  obtain ⟨hx, hb, -⟩ := h0
  subst e
  intro H locs ls hP hS hl
  exact lv_iand hx hb hdg (k H locs ls hP hS hl)
theorem r_ior (h0 : CX own cc nL rm X w) {x y : Int32} (hdg : decode cc pc = .ok (.ior, 1)) (e : pc + 1 = pc') (k : GV X w nL cn sn S L pc' (.int (x ||| y) :: st)) : GV X w nL cn sn S L pc (.int y :: .int x :: st) := by
  obtain ⟨p, l, en, R, s, m, args, below, meth, c, Q⟩ := X
  obtain ⟨hx, hb, -⟩ := h0
  subst e
  intro H locs ls hP hS hl
  exact lv_ior hx hb hdg (k H locs ls hP hS hl)
theorem r_ishl (h0 : CX own cc nL rm X w) {x y : Int32} (hdg : decode cc pc = .ok (.ishl, 1)) (e : pc + 1 = pc') (k : GV X w nL cn sn S L pc' (.int (x <<< (y &&& 31)) :: st)) : GV X w nL cn sn S L pc (.int y :: .int x :: st) := by
  obtain ⟨p, l, en, R, s, m, args, below, meth, c, Q⟩ := X
  obtain ⟨hx, hb, -⟩ := h0
  subst e
  intro H locs ls hP hS hl
  exact lv_ishl hx hb hdg (k H locs ls hP hS hl)
theorem r_ishr (h0 : CX own cc nL rm X w) {x y : Int32} (hdg : decode cc pc = .ok (.ishr, 1)) (e : pc + 1 = pc') (k : GV X w nL cn sn S L pc' (.int (x >>> (y &&& 31)) :: st)) : GV X w nL cn sn S L pc (.int y :: .int x :: st) := by
  obtain ⟨p, l, en, R, s, m, args, below, meth, c, Q⟩ := X
  obtain ⟨hx, hb, -⟩ := h0
  subst e
  intro H locs ls hP hS hl
  exact lv_ishr hx hb hdg (k H locs ls hP hS hl)
theorem r_ineg (h0 : CX own cc nL rm X w) {x : Int32} (hdg : decode cc pc = .ok (.ineg, 1)) (e : pc + 1 = pc') (k : GV X w nL cn sn S L pc' (.int (-x) :: st)) : GV X w nL cn sn S L pc (.int x :: st) := by
  obtain ⟨p, l, en, R, s, m, args, below, meth, c, Q⟩ := X
  obtain ⟨hx, hb, -⟩ := h0
  subst e
  intro H locs ls hP hS hl
  exact lv_ineg hx hb hdg (k H locs ls hP hS hl)
/-- division: the pure text tests the divisor -/
theorem r_idiv {α : Type} {A : Option α} {z : α} (h0 : CX own cc nL rm X w) {x y : Int32} (hdg : decode cc pc = .ok (.idiv, 1)) (e : pc + 1 = pc') (h : gd (!(y == 0)) A = some z) (k : A = some z → GV X w nL cn sn S L pc' (.int (x / y) :: st)) : GV X w nL cn sn S L pc (.int y :: .int x :: st) := by
  obtain ⟨p, l, en, R, s, m, args, below, meth, c, Q⟩ := X
  obtain ⟨hx, hb, -⟩ := h0
  subst e
  obtain ⟨hz, hA⟩ := gd_some h
  intro H locs ls hP hS hl
  exact lv_idiv hx hb hdg (by simpa using hz) (k hA H locs ls hP hS hl)
theorem r_irem {α : Type} {A : Option α} {z : α} (h0 : CX own cc nL rm X w) {x y : Int32} (hdg : decode cc pc = .ok (.irem, 1)) (e : pc + 1 = pc') (h : gd (!(y == 0)) A = some z) (k : A = some z → GV X w nL cn sn S L pc' (.int (x - x / y * y) :: st)) : GV X w nL cn sn S L pc (.int y :: .int x :: st) := by
  obtain ⟨p, l, en, R, s, m, args, below, meth, c, Q⟩ := X
  obtain ⟨hx, hb, -⟩ := h0
  subst e
  obtain ⟨hz, hA⟩ := gd_some h
  intro H locs ls hP hS hl
  exact lv_irem hx hb hdg (by simpa using hz) (k hA H locs ls hP hS hl)
theorem r_ladd (h0 : CX own cc nL rm X w) {x y : Int64} (hdg : decode cc pc = .ok (.ladd, 1)) (e : pc + 1 = pc') (k : GV X w nL cn sn S L pc' (.long (x + y) :: st)) : GV X w nL cn sn S L pc (.long y :: .long x :: st) := by
  obtain ⟨p, l, en, R, s, m, args, below, meth, c, Q⟩ := X
  obtain ⟨hx, hb, -⟩ := h0
  subst e
  intro H locs ls hP hS hl
  exact lv_ladd hx hb hdg (k H locs ls hP hS hl)
theorem r_lsub (h0 : CX own cc nL rm X w) {x y : Int64} (hdg : decode cc pc = .ok (.lsub, 1)) (e : pc + 1 = pc') (k : GV X w nL cn sn S L pc' (.long (x - y) :: st)) : GV X w nL cn sn S L pc (.long y :: .long x :: st) := by
  obtain ⟨p, l, en, R, s, m, args, below, meth, c, Q⟩ := X
  obtain ⟨hx, hb, -⟩ := h0
  subst e
  intro H locs ls hP hS hl
  exact lv_lsub hx hb hdg (k H locs ls hP hS hl)
theorem r_land (h0 : CX own cc nL rm X w) {x y : Int64} (hdg : decode cc pc = .ok (.land, 1)) (e : pc + 1 = pc') (k : GV X w nL cn sn S L pc' (.long (x &&& y) :: st)) : GV X w nL cn sn S L pc (.long y :: .long x :: st) := by
  obtain ⟨p, l, en, R, s, m, args, below, meth, c, Q⟩ := X
  obtain ⟨hx, hb, -⟩ := h0
  subst e
  intro H locs ls hP hS hl
  exact lv_land hx hb hdg (k H locs ls hP hS hl)
theorem r_lor (h0 : CX own cc nL rm X w) {x y : Int64} (hdg : decode cc pc = .ok (.lor, 1)) (e : pc + 1 = pc') (k : GV X w nL cn sn S L pc' (.long (x ||| y) :: st)) : GV X w nL cn sn S L pc (.long y :: .long x :: st) := by
  obtain ⟨p, l, en, R, s, m, args, below, meth, c, Q⟩ := X
  obtain ⟨hx, hb, -⟩ := h0
  subst e
  intro H locs ls hP hS hl
  exact lv_lor hx hb hdg (k H locs ls hP hS hl)
theorem r_lxor (h0 : CX own cc nL rm X w) {x y : Int64} (hdg : decode cc pc = .ok (.lxor, 1)) (e : pc + 1 = pc') (k : GV X w nL cn sn S L pc' (.long (x ^^^ y) :: st)) : GV X w nL cn sn S L pc (.long y :: .long x :: st) := by
  obtain ⟨p, l, en, R, s, m, args, below, meth, c, Q⟩ := X
  obtain ⟨hx, hb, -⟩ := h0
  subst e
  intro H locs ls hP hS hl
  exact lv_lxor hx hb hdg (k H locs ls hP hS hl)
theorem r_lushr (h0 : CX own cc nL rm X w) {x : Int64} {y : Int32} (hdg : decode cc pc = .ok (.lushr, 1)) (e : pc + 1 = pc') (k : GV X w nL cn sn S L pc' (.long ((x.toUInt64 >>> (y.toInt64.toUInt64 &&& Int64.toUInt64 63)).toInt64) :: st)) : GV X w nL cn sn S L pc (.int y :: .long x :: st) := by
  obtain ⟨p, l, en, R, s, m, args, below, meth, c, Q⟩ := X
  obtain ⟨hx, hb, -⟩ := h0
  subst e
  intro H locs ls hP hS hl
  exact lv_lushr hx hb hdg rfl (k H locs ls hP hS hl)
theorem r_lshl (h0 : CX own cc nL rm X w) {x : Int64} {y : Int32} (hdg : decode cc pc = .ok (.lshl, 1)) (e : pc + 1 = pc') (k : GV X w nL cn sn S L pc' (.long (x <<< (y.toInt64 &&& 63)) :: st)) : GV X w nL cn sn S L pc (.int y :: .long x :: st) := by
  obtain ⟨p, l, en, R, s, m, args, below, meth, c, Q⟩ := X
  obtain ⟨hx, hb, -⟩ := h0
  subst e
  intro H locs ls hP hS hl
  exact lv_lshl hx hb hdg rfl (k H locs ls hP hS hl)
theorem r_l2i (h0 : CX own cc nL rm X w) {x : Int64} (hdg : decode cc pc = .ok (.l2i, 1)) (e : pc + 1 = pc') (k : GV X w nL cn sn S L pc' (.int x.toInt32 :: st)) : GV X w nL cn sn S L pc (.long x :: st) := by
  obtain ⟨p, l, en, R, s, m, args, below, meth, c, Q⟩ := X
  obtain ⟨hx, hb, -⟩ := h0
  subst e
  intro H locs ls hP hS hl
  exact lv_l2i hx hb hdg rfl (k H locs ls hP hS hl)
theorem r_i2l (h0 : CX own cc nL rm X w) {x : Int32} (hdg : decode cc pc = .ok (.i2l, 1)) (e : pc + 1 = pc') (k : GV X w nL cn sn S L pc' (.long x.toInt64 :: st)) : GV X w nL cn sn S L pc (.int x :: st) := by
  obtain ⟨p, l, en, R, s, m, args, below, meth, c, Q⟩ := X
  obtain ⟨hx, hb, -⟩ := h0
  subst e
  intro H locs ls hP hS hl
  exact lv_i2l hx hb hdg rfl (k H locs ls hP hS hl)
theorem r_lcmp (h0 : CX own cc nL rm X w) {x y : Int64} (hdg : decode cc pc = .ok (.lcmp, 1)) (e : pc + 1 = pc') (k : GV X w nL cn sn S L pc' (.int (lg_cmp x y) :: st)) : GV X w nL cn sn S L pc (.long y :: .long x :: st) := by
  obtain ⟨p, l, en, R, s, m, args, below, meth, c, Q⟩ := X
  obtain ⟨hx, hb, -⟩ := h0
  subst e
  intro H locs ls hP hS hl
  exact W.lcmp hx hb hdg (k H locs ls hP hS hl)
theorem r_dup (h0 : CX own cc nL rm X w) {va : Value} (hdg : decode cc pc = .ok (.dup, 1)) (hc : va.category = 1) (e : pc + 1 = pc') (k : GV X w nL cn sn S L pc' (va :: va :: st)) : GV X w nL cn sn S L pc (va :: st) := by
  obtain ⟨p, l, en, R, s, m, args, below, meth, c, Q⟩ := X
  obtain ⟨hx, hb, -⟩ := h0
  subst e
  intro H locs ls hP hS hl
  exact lv_dup hx hb hdg hc (k H locs ls hP hS hl)
theorem r_dup2 (h0 : CX own cc nL rm X w) {va vb : Value} (hdg : decode cc pc = .ok (.dup2, 1)) (hc : va.category = 1) (hc2 : vb.category = 1) (e : pc + 1 = pc') (k : GV X w nL cn sn S L pc' (va :: vb :: va :: vb :: st)) : GV X w nL cn sn S L pc (va :: vb :: st) := by
  obtain ⟨p, l, en, R, s, m, args, below, meth, c, Q⟩ := X
  obtain ⟨hx, hb, -⟩ := h0
  subst e
  intro H locs ls hP hS hl
  exact lv_dup2_11 hx hb hdg hc hc2 (k H locs ls hP hS hl)
theorem r_pop (h0 : CX own cc nL rm X w) {va : Value} (hdg : decode cc pc = .ok (.pop, 1)) (hc : va.category = 1) (e : pc + 1 = pc') (k : GV X w nL cn sn S L pc' st) : GV X w nL cn sn S L pc (va :: st) := by
  obtain ⟨p, l, en, R, s, m, args, below, meth, c, Q⟩ := X
  obtain ⟨hx, hb, -⟩ := h0
  subst e
  intro H locs ls hP hS hl
  exact lv_pop hx hb hdg hc (k H locs ls hP hS hl)
theorem r_goto (h0 : CX own cc nL rm X w) {off : Int} (hdg : decode cc pc = .ok (.goto off, 3)) (e : (pc : Int) + off = (pc' : Int)) (k : GV X w nL cn sn S L pc' st) : GV X w nL cn sn S L pc st := by
  obtain ⟨p, l, en, R, s, m, args, below, meth, c, Q⟩ := X
  obtain ⟨hx, hb, -⟩ := h0
  intro H locs ls hP hS hl
  exact lv_goto hx hb hdg e (k H locs ls hP hS hl)
end RW
section RB
variable {own : String} {cc : ByteArray} {nL : Nat} {rm : Room} {X : MX} {w : WX} {cn sn : Nat} {S : Mem} {L L' : List (Nat × Value)} {pc pt pf : Nat} {st : List Value} {α : Type} {A B : Option α} {z : α} {off : Int}
theorem ite_tt {c : Prop} {d : Decidable c} {A B : Option α} {z : α} (h : ite c A B = some z) (hc : c) : A = some z := by rw [if_pos hc] at h; exact h
theorem ite_ff {c : Prop} {d : Decidable c} {A B : Option α} {z : α} (h : ite c A B = some z) (hc : ¬ c) : B = some z := by rw [if_neg hc] at h; exact h
theorem r_if_eq (h0 : CX own cc nL rm X w) {x : Int32} (hdg : decode cc pc = .ok (.ifCond .eq off, 3)) (et : (pc : Int) + off = (pt : Int)) (ef : pc + 3 = pf) (h : (if x = 0 then A else B) = some z) (kt : x = 0 → A = some z → GV X w nL cn sn S L pt st) (kf : ¬ x = 0 → B = some z → GV X w nL cn sn S L pf st) : GV X w nL cn sn S L pc (.int x :: st) := by
  obtain ⟨p, l, en, R, s, m, args, below, meth, c, Q⟩ := X
  obtain ⟨hx, hb, -⟩ := h0
  subst ef
  intro H locs ls hP hS hl
  exact lv_if_eq hx hb hdg et (fun c => kt c (ite_tt h c) H locs ls hP hS hl) (fun c => kf c (ite_ff h c) H locs ls hP hS hl)
theorem r_if_ne (h0 : CX own cc nL rm X w) {x : Int32} (hdg : decode cc pc = .ok (.ifCond .ne off, 3)) (et : (pc : Int) + off = (pt : Int)) (ef : pc + 3 = pf) (h : (if x = 0 then B else A) = some z) (kt : ¬ x = 0 → A = some z → GV X w nL cn sn S L pt st) (kf : x = 0 → B = some z → GV X w nL cn sn S L pf st) : GV X w nL cn sn S L pc (.int x :: st) := by
  obtain ⟨p, l, en, R, s, m, args, below, meth, c, Q⟩ := X
  obtain ⟨hx, hb, -⟩ := h0
  subst ef
  intro H locs ls hP hS hl
  exact lv_if_ne hx hb hdg et (fun c => kt c (ite_ff h c) H locs ls hP hS hl) (fun c => kf c (ite_tt h c) H locs ls hP hS hl)
theorem r_if_lt (h0 : CX own cc nL rm X w) {x : Int32} (hdg : decode cc pc = .ok (.ifCond .lt off, 3)) (et : (pc : Int) + off = (pt : Int)) (ef : pc + 3 = pf) (h : (if x < 0 then A else B) = some z) (kt : x < 0 → A = some z → GV X w nL cn sn S L pt st) (kf : ¬ x < 0 → B = some z → GV X w nL cn sn S L pf st) : GV X w nL cn sn S L pc (.int x :: st) := by
  obtain ⟨p, l, en, R, s, m, args, below, meth, c, Q⟩ := X
  obtain ⟨hx, hb, -⟩ := h0
  subst ef
  intro H locs ls hP hS hl
  exact lv_if_lt hx hb hdg et (fun c => kt c (ite_tt h c) H locs ls hP hS hl) (fun c => kf c (ite_ff h c) H locs ls hP hS hl)
theorem r_if_ge (h0 : CX own cc nL rm X w) {x : Int32} (hdg : decode cc pc = .ok (.ifCond .ge off, 3)) (et : (pc : Int) + off = (pt : Int)) (ef : pc + 3 = pf) (h : (if 0 ≤ x then A else B) = some z) (kt : 0 ≤ x → A = some z → GV X w nL cn sn S L pt st) (kf : ¬ 0 ≤ x → B = some z → GV X w nL cn sn S L pf st) : GV X w nL cn sn S L pc (.int x :: st) := by
  obtain ⟨p, l, en, R, s, m, args, below, meth, c, Q⟩ := X
  obtain ⟨hx, hb, -⟩ := h0
  subst ef
  intro H locs ls hP hS hl
  exact lv_if_ge hx hb hdg et (fun c => kt c (ite_tt h c) H locs ls hP hS hl) (fun c => kf c (ite_ff h c) H locs ls hP hS hl)
theorem r_if_gt (h0 : CX own cc nL rm X w) {x : Int32} (hdg : decode cc pc = .ok (.ifCond .gt off, 3)) (et : (pc : Int) + off = (pt : Int)) (ef : pc + 3 = pf) (h : (if 0 < x then A else B) = some z) (kt : 0 < x → A = some z → GV X w nL cn sn S L pt st) (kf : ¬ 0 < x → B = some z → GV X w nL cn sn S L pf st) : GV X w nL cn sn S L pc (.int x :: st) := by
  obtain ⟨p, l, en, R, s, m, args, below, meth, c, Q⟩ := X
  obtain ⟨hx, hb, -⟩ := h0
  subst ef
  intro H locs ls hP hS hl
  exact lv_if_gt hx hb hdg et (fun c => kt c (ite_tt h c) H locs ls hP hS hl) (fun c => kf c (ite_ff h c) H locs ls hP hS hl)
theorem r_if_le (h0 : CX own cc nL rm X w) {x : Int32} (hdg : decode cc pc = .ok (.ifCond .le off, 3)) (et : (pc : Int) + off = (pt : Int)) (ef : pc + 3 = pf) (h : (if x ≤ 0 then A else B) = some z) (kt : x ≤ 0 → A = some z → GV X w nL cn sn S L pt st) (kf : ¬ x ≤ 0 → B = some z → GV X w nL cn sn S L pf st) : GV X w nL cn sn S L pc (.int x :: st) := by
  obtain ⟨p, l, en, R, s, m, args, below, meth, c, Q⟩ := X
  obtain ⟨hx, hb, -⟩ := h0
  subst ef
  intro H locs ls hP hS hl
  exact lv_if_le hx hb hdg et (fun c => kt c (ite_tt h c) H locs ls hP hS hl) (fun c => kf c (ite_ff h c) H locs ls hP hS hl)
theorem r_ic_eq (h0 : CX own cc nL rm X w) {x y : Int32} (hdg : decode cc pc = .ok (.if_icmp .eq off, 3)) (et : (pc : Int) + off = (pt : Int)) (ef : pc + 3 = pf) (h : (if x = y then A else B) = some z) (kt : x = y → A = some z → GV X w nL cn sn S L pt st) (kf : ¬ x = y → B = some z → GV X w nL cn sn S L pf st) : GV X w nL cn sn S L pc (.int y :: .int x :: st) := by
  obtain ⟨p, l, en, R, s, m, args, below, meth, c, Q⟩ := X
  obtain ⟨hx, hb, -⟩ := h0
  subst ef
  intro H locs ls hP hS hl
  exact lv_icmp_eq hx hb hdg et (fun c => kt c (ite_tt h c) H locs ls hP hS hl) (fun c => kf c (ite_ff h c) H locs ls hP hS hl)
theorem r_ic_ne (h0 : CX own cc nL rm X w) {x y : Int32} (hdg : decode cc pc = .ok (.if_icmp .ne off, 3)) (et : (pc : Int) + off = (pt : Int)) (ef : pc + 3 = pf) (h : (if x = y then B else A) = some z) (kt : ¬ x = y → A = some z → GV X w nL cn sn S L pt st) (kf : x = y → B = some z → GV X w nL cn sn S L pf st) : GV X w nL cn sn S L pc (.int y :: .int x :: st) := by
  obtain ⟨p, l, en, R, s, m, args, below, meth, c, Q⟩ := X
  obtain ⟨hx, hb, -⟩ := h0
  subst ef
  intro H locs ls hP hS hl
  exact lv_icmp_ne hx hb hdg et (fun c => kt c (ite_ff h c) H locs ls hP hS hl) (fun c => kf c (ite_tt h c) H locs ls hP hS hl)
theorem r_ic_lt (h0 : CX own cc nL rm X w) {x y : Int32} (hdg : decode cc pc = .ok (.if_icmp .lt off, 3)) (et : (pc : Int) + off = (pt : Int)) (ef : pc + 3 = pf) (h : (if x < y then A else B) = some z) (kt : x < y → A = some z → GV X w nL cn sn S L pt st) (kf : ¬ x < y → B = some z → GV X w nL cn sn S L pf st) : GV X w nL cn sn S L pc (.int y :: .int x :: st) := by
  obtain ⟨p, l, en, R, s, m, args, below, meth, c, Q⟩ := X
  obtain ⟨hx, hb, -⟩ := h0
  subst ef
  intro H locs ls hP hS hl
  exact lv_icmp_lt hx hb hdg et (fun c => kt c (ite_tt h c) H locs ls hP hS hl) (fun c => kf c (ite_ff h c) H locs ls hP hS hl)
theorem r_ic_ge (h0 : CX own cc nL rm X w) {x y : Int32} (hdg : decode cc pc = .ok (.if_icmp .ge off, 3)) (et : (pc : Int) + off = (pt : Int)) (ef : pc + 3 = pf) (h : (if y ≤ x then A else B) = some z) (kt : y ≤ x → A = some z → GV X w nL cn sn S L pt st) (kf : ¬ y ≤ x → B = some z → GV X w nL cn sn S L pf st) : GV X w nL cn sn S L pc (.int y :: .int x :: st) := by
  obtain ⟨p, l, en, R, s, m, args, below, meth, c, Q⟩ := X
  obtain ⟨hx, hb, -⟩ := h0
  subst ef
  intro H locs ls hP hS hl
  exact lv_icmp_ge hx hb hdg et (fun c => kt c (ite_tt h c) H locs ls hP hS hl) (fun c => kf c (ite_ff h c) H locs ls hP hS hl)
theorem r_ic_gt (h0 : CX own cc nL rm X w) {x y : Int32} (hdg : decode cc pc = .ok (.if_icmp .gt off, 3)) (et : (pc : Int) + off = (pt : Int)) (ef : pc + 3 = pf) (h : (if y < x then A else B) = some z) (kt : y < x → A = some z → GV X w nL cn sn S L pt st) (kf : ¬ y < x → B = some z → GV X w nL cn sn S L pf st) : GV X w nL cn sn S L pc (.int y :: .int x :: st) := by
  obtain ⟨p, l, en, R, s, m, args, below, meth, c, Q⟩ := X
  obtain ⟨hx, hb, -⟩ := h0
  subst ef
  intro H locs ls hP hS hl
  exact lv_icmp_gt hx hb hdg et (fun c => kt c (ite_tt h c) H locs ls hP hS hl) (fun c => kf c (ite_ff h c) H locs ls hP hS hl)
theorem r_ic_le (h0 : CX own cc nL rm X w) {x y : Int32} (hdg : decode cc pc = .ok (.if_icmp .le off, 3)) (et : (pc : Int) + off = (pt : Int)) (ef : pc + 3 = pf) (h : (if x ≤ y then A else B) = some z) (kt : x ≤ y → A = some z → GV X w nL cn sn S L pt st) (kf : ¬ x ≤ y → B = some z → GV X w nL cn sn S L pf st) : GV X w nL cn sn S L pc (.int y :: .int x :: st) := by
  obtain ⟨p, l, en, R, s, m, args, below, meth, c, Q⟩ := X
  obtain ⟨hx, hb, -⟩ := h0
  subst ef
  intro H locs ls hP hS hl
  exact lv_icmp_le hx hb hdg et (fun c => kt c (ite_tt h c) H locs ls hP hS hl) (fun c => kf c (ite_ff h c) H locs ls hP hS hl)
theorem r_ifnonnull (h0 : CX own cc nL rm X w) {x : Nat} (hdg : decode cc pc = .ok (.ifnonnull off, 3)) (et : (pc : Int) + off = (pt : Int)) (k : GV X w nL cn sn S L pt st) : GV X w nL cn sn S L pc (.ref x :: st) := by
  obtain ⟨p, l, en, R, s, m, args, below, meth, c, Q⟩ := X
  obtain ⟨hx, hb, -⟩ := h0
  intro H locs ls hP hS hl
  exact lv_ifnonnull hx hb hdg et (k H locs ls hP hS hl)
end RB
