/-! The law's own judgement: the heap holds P; rows; contracts of the law's methods; their calls. -/
def LV (X : MX) (A : Nat → Prop) (nL cn sn : Nat) (P : Heap → Prop) (L : List (Nat × Value)) (pc : Nat) (st : List Value) : Prop := match X with
  | (p, l, e, R, s, m, args, below, meth, c, Q) => ∀ (H : Heap) (locs : List Loc) (ls : Array Slot), P H → va_S A s.heap H locs → lv_has ls nL L → W p l e R s m args below meth c H locs cn sn Q (F0 m pc ls st)
def LX (own : String) (cc : ByteArray) (nL : Nat) (rm : Room) (X : MX) : Prop := match X with
  | (p, _, _, R, s, m, args, _, meth, c, _) => p.tables.exec = Jvm.exec ∧ c.code = cc ∧ c.maxLocals = nL ∧ s.vm.findClass own = some m.cls ∧ (∀ t ∈ GW, t.before args s = true) ∧ (∀ t ∈ NW, va_Nw t s) ∧ meth.locks = false ∧ R = rm
section LW
variable {own : String} {cc : ByteArray} {nL : Nat} {rm : Room} {X : MX} {Ad : Nat → Prop} {cn sn : Nat} {P : Heap → Prop} {L L' : List (Nat × Value)} {pc pc' : Nat} {st : List Value}
theorem l_iconst (h0 : LX own cc nL rm X) {n : Int} {v : Int32} (hdg : decode cc pc = .ok (.iconst n, 1)) (hv : Int32.ofInt n = v) (e : pc + 1 = pc') (k : LV X Ad nL cn sn P L pc' (.int v :: st)) : LV X Ad nL cn sn P L pc st := by
  obtain ⟨p, l, en, R, s, m, args, below, meth, c, Q⟩ := X
  obtain ⟨hx, hb, -⟩ := h0
  subst e
  intro H locs ls hP hS hl
  exact lv_iconst hx hb hdg hv (k H locs ls hP hS hl)
theorem l_bipush (h0 : LX own cc nL rm X) {n : Int} {v : Int32} (hdg : decode cc pc = .ok (.bipush n, 2)) (hv : (Int8.ofInt n).toInt32 = v) (e : pc + 2 = pc') (k : LV X Ad nL cn sn P L pc' (.int v :: st)) : LV X Ad nL cn sn P L pc st := by
  obtain ⟨p, l, en, R, s, m, args, below, meth, c, Q⟩ := X
  obtain ⟨hx, hb, -⟩ := h0
  subst e
  intro H locs ls hP hS hl
  exact lv_bipush hx hb hdg hv (k H locs ls hP hS hl)
theorem l_sipush (h0 : LX own cc nL rm X) {n : Int} {v : Int32} (hdg : decode cc pc = .ok (.sipush n, 3)) (hv : (Int16.ofInt n).toInt32 = v) (e : pc + 3 = pc') (k : LV X Ad nL cn sn P L pc' (.int v :: st)) : LV X Ad nL cn sn P L pc st := by
  obtain ⟨p, l, en, R, s, m, args, below, meth, c, Q⟩ := X
  obtain ⟨hx, hb, -⟩ := h0
  subst e
  intro H locs ls hP hS hl
  exact lv_sipush hx hb hdg hv (k H locs ls hP hS hl)
theorem l_ldc (h0 : LX own cc nL rm X) {i : Nat} {v : Int32} (hw : Cond.constant own i v ∈ GW) (hdg : decode cc pc = .ok (.ldc i, 2)) (e : pc + 2 = pc') (k : LV X Ad nL cn sn P L pc' (.int v :: st)) : LV X Ad nL cn sn P L pc st := by
  obtain ⟨p, l, en, R, s, m, args, below, meth, c, Q⟩ := X
  obtain ⟨hx, hb, -, ho, ht, -⟩ := h0
  subst e
  intro H locs ls hP hS hl
  exact lv_ldc hx hb ho (ht _ hw) hdg (k H locs ls hP hS hl)
theorem l_iload_n (h0 : LX own cc nL rm X) (q : Nat) {n : Fin 4} {i : Nat} {x : Int32} (hdg : decode cc pc = .ok (.iload_n n, 1)) (hi : (n : Nat) = i) (hq : L[q]? = some (i, .int x)) (e : pc + 1 = pc') (k : LV X Ad nL cn sn P L pc' (.int x :: st)) : LV X Ad nL cn sn P L pc st := by
  obtain ⟨p, l, en, R, s, m, args, below, meth, c, Q⟩ := X
  obtain ⟨hx, hb, -⟩ := h0
  subst e
  intro H locs ls hP hS hl
  exact lv_iload_n hx hb hdg hi (lv_at hl q hq) (k H locs ls hP hS hl)
theorem l_iload (h0 : LX own cc nL rm X) (q : Nat) {i : Nat} {x : Int32} (hdg : decode cc pc = .ok (.iload i, 2)) (hq : L[q]? = some (i, .int x)) (e : pc + 2 = pc') (k : LV X Ad nL cn sn P L pc' (.int x :: st)) : LV X Ad nL cn sn P L pc st := by
  obtain ⟨p, l, en, R, s, m, args, below, meth, c, Q⟩ := X
  obtain ⟨hx, hb, -⟩ := h0
  subst e
  intro H locs ls hP hS hl
  exact lv_iload hx hb hdg (lv_at hl q hq) (k H locs ls hP hS hl)
theorem l_aload_n (h0 : LX own cc nL rm X) (q : Nat) {n : Fin 4} {i x : Nat} (hdg : decode cc pc = .ok (.aload_n n, 1)) (hi : (n : Nat) = i) (hq : L[q]? = some (i, .ref x)) (e : pc + 1 = pc') (k : LV X Ad nL cn sn P L pc' (.ref x :: st)) : LV X Ad nL cn sn P L pc st := by
  obtain ⟨p, l, en, R, s, m, args, below, meth, c, Q⟩ := X
  obtain ⟨hx, hb, -⟩ := h0
  subst e
  intro H locs ls hP hS hl
  exact lv_aload_n hx hb hdg hi (lv_at hl q hq) (k H locs ls hP hS hl)
theorem l_aload (h0 : LX own cc nL rm X) (q : Nat) {i x : Nat} (hdg : decode cc pc = .ok (.aload i, 2)) (hq : L[q]? = some (i, .ref x)) (e : pc + 2 = pc') (k : LV X Ad nL cn sn P L pc' (.ref x :: st)) : LV X Ad nL cn sn P L pc st := by
  obtain ⟨p, l, en, R, s, m, args, below, meth, c, Q⟩ := X
  obtain ⟨hx, hb, -⟩ := h0
  subst e
  intro H locs ls hP hS hl
  exact lv_aload hx hb hdg (lv_at hl q hq) (k H locs ls hP hS hl)
theorem l_sub (ks : List Nat) (hl : lv_pick L ks = L') (k : LV X Ad nL cn sn P L' pc st) : LV X Ad nL cn sn P L pc st := by
  obtain ⟨p, l, en, R, s, m, args, below, meth, c, Q⟩ := X
  intro H locs ls hP hS hl0
  exact k H locs ls hP hS (lv_sub hl0 ks hl)
theorem l_istore_n (h0 : LX own cc nL rm X) {n : Fin 4} {i : Nat} {x : Int32} (hdg : decode cc pc = .ok (.istore_n n, 1)) (hi : (n : Nat) = i) (hn : i < nL) (hl : (i, Value.int x) :: L.filter (fun q => !(q.1 == i) && !(q.1 + 1 == i && q.2.category == 2)) = L') (e : pc + 1 = pc') (k : LV X Ad nL cn sn P L' pc' st) : LV X Ad nL cn sn P L pc (.int x :: st) := by
  obtain ⟨p, l, en, R, s, m, args, below, meth, c, Q⟩ := X
  obtain ⟨hx, hb, -⟩ := h0
  subst e
  intro H locs ls hP hS hl0
  exact lv_istore_n hx hb hdg hi hl0 hn hl (fun ls' hl' => k H locs ls' hP hS hl')
theorem l_istore (h0 : LX own cc nL rm X) {i : Nat} {x : Int32} (hdg : decode cc pc = .ok (.istore i, 2)) (hn : i < nL) (hl : (i, Value.int x) :: L.filter (fun q => !(q.1 == i) && !(q.1 + 1 == i && q.2.category == 2)) = L') (e : pc + 2 = pc') (k : LV X Ad nL cn sn P L' pc' st) : LV X Ad nL cn sn P L pc (.int x :: st) := by
  obtain ⟨p, l, en, R, s, m, args, below, meth, c, Q⟩ := X
  obtain ⟨hx, hb, -⟩ := h0
  subst e
  intro H locs ls hP hS hl0
  exact lv_istore hx hb hdg hl0 hn hl (fun ls' hl' => k H locs ls' hP hS hl')
theorem l_astore_n (h0 : LX own cc nL rm X) {n : Fin 4} {i x : Nat} (hdg : decode cc pc = .ok (.astore_n n, 1)) (hi : (n : Nat) = i) (hn : i < nL) (hl : (i, Value.ref x) :: L.filter (fun q => !(q.1 == i) && !(q.1 + 1 == i && q.2.category == 2)) = L') (e : pc + 1 = pc') (k : LV X Ad nL cn sn P L' pc' st) : LV X Ad nL cn sn P L pc (.ref x :: st) := by
  obtain ⟨p, l, en, R, s, m, args, below, meth, c, Q⟩ := X
  obtain ⟨hx, hb, -⟩ := h0
  subst e
  intro H locs ls hP hS hl0
  exact lv_astore_n hx hb hdg hi hl0 hn hl (fun ls' hl' => k H locs ls' hP hS hl')
theorem l_astore (h0 : LX own cc nL rm X) {i x : Nat} (hdg : decode cc pc = .ok (.astore i, 2)) (hn : i < nL) (hl : (i, Value.ref x) :: L.filter (fun q => !(q.1 == i) && !(q.1 + 1 == i && q.2.category == 2)) = L') (e : pc + 2 = pc') (k : LV X Ad nL cn sn P L' pc' st) : LV X Ad nL cn sn P L pc (.ref x :: st) := by
  obtain ⟨p, l, en, R, s, m, args, below, meth, c, Q⟩ := X
  obtain ⟨hx, hb, -⟩ := h0
  subst e
  intro H locs ls hP hS hl0
  exact lv_astore hx hb hdg hl0 hn hl (fun ls' hl' => k H locs ls' hP hS hl')
theorem l_iinc (h0 : LX own cc nL rm X) (q : Nat) {i : Nat} {n : Int} {x v : Int32} (hdg : decode cc pc = .ok (.iinc i n, 3)) (hq : L[q]? = some (i, .int x)) (hv : Int32.ofInt n = v) (hn : i < nL) (hl : (i, Value.int (x + v)) :: L.filter (fun q => !(q.1 == i) && !(q.1 + 1 == i && q.2.category == 2)) = L') (e : pc + 3 = pc') (k : LV X Ad nL cn sn P L' pc' st) : LV X Ad nL cn sn P L pc st := by
  obtain ⟨p, l, en, R, s, m, args, below, meth, c, Q⟩ := X
  obtain ⟨hx, hb, -⟩ := h0
  subst e
  subst hv
  intro H locs ls hP hS hl0
  exact lv_iinc hx hb hdg hl0 hq rfl hn hl (fun ls' hl' => k H locs ls' hP hS hl')
theorem l_iadd (h0 : LX own cc nL rm X) {x y : Int32} (hdg : decode cc pc = .ok (.iadd, 1)) (e : pc + 1 = pc') (k : LV X Ad nL cn sn P L pc' (.int (x + y) :: st)) : LV X Ad nL cn sn P L pc (.int y :: .int x :: st) := by
  obtain ⟨p, l, en, R, s, m, args, below, meth, c, Q⟩ := X
  obtain ⟨hx, hb, -⟩ := h0
  subst e
  intro H locs ls hP hS hl
  exact lv_iadd hx hb hdg (k H locs ls hP hS hl)
theorem l_isub (h0 : LX own cc nL rm X) {x y : Int32} (hdg : decode cc pc = .ok (.isub, 1)) (e : pc + 1 = pc') (k : LV X Ad nL cn sn P L pc' (.int (x - y) :: st)) : LV X Ad nL cn sn P L pc (.int y :: .int x :: st) := by
  obtain ⟨p, l, en, R, s, m, args, below, meth, c, Q⟩ := X
  obtain ⟨hx, hb, -⟩ := h0
  subst e
  intro H locs ls hP hS hl
  exact lv_isub hx hb hdg (k H locs ls hP hS hl)
theorem l_imul (h0 : LX own cc nL rm X) {x y : Int32} (hdg : decode cc pc = .ok (.imul, 1)) (e : pc + 1 = pc') (k : LV X Ad nL cn sn P L pc' (.int (x * y) :: st)) : LV X Ad nL cn sn P L pc (.int y :: .int x :: st) := by
  obtain ⟨p, l, en, R, s, m, args, below, meth, c, Q⟩ := X
  obtain ⟨hx, hb, -⟩ := h0
  subst e
  intro H locs ls hP hS hl
  exact lv_imul hx hb hdg (k H locs ls hP hS hl)
theorem l_iand (h0 : LX own cc nL rm X) {x y : Int32} (hdg : decode cc pc = .ok (.iand, 1)) (e : pc + 1 = pc') (k : LV X Ad nL cn sn P L pc' (.int (x &&& y) :: st)) : LV X Ad nL cn sn P L pc (.int y :: .int x :: st) := by
  obtain ⟨p, l, en, R, s, m, args, below, meth, c, Q⟩ := X
  obtain ⟨hx, hb, -⟩ := h0
  subst e
  intro H locs ls hP hS hl
  exact lv_iand hx hb hdg (k H locs ls hP hS hl)
theorem l_ishr (h0 : LX own cc nL rm X) {x y : Int32} (hdg : decode cc pc = .ok (.ishr, 1)) (e : pc + 1 = pc') (k : LV X Ad nL cn sn P L pc' (.int (x >>> (y &&& 31)) :: st)) : LV X Ad nL cn sn P L pc (.int y :: .int x :: st) := by
  obtain ⟨p, l, en, R, s, m, args, below, meth, c, Q⟩ := X
  obtain ⟨hx, hb, -⟩ := h0
  subst e
  intro H locs ls hP hS hl
  exact lv_ishr hx hb hdg (k H locs ls hP hS hl)
theorem l_idiv {α : Type} {A : Option α} {z : α} (h0 : LX own cc nL rm X) {x y : Int32} (hdg : decode cc pc = .ok (.idiv, 1)) (e : pc + 1 = pc') (h : gd (!(y == 0)) A = some z) (k : A = some z → LV X Ad nL cn sn P L pc' (.int (x / y) :: st)) : LV X Ad nL cn sn P L pc (.int y :: .int x :: st) := by
  obtain ⟨p, l, en, R, s, m, args, below, meth, c, Q⟩ := X
  obtain ⟨hx, hb, -⟩ := h0
  subst e
  obtain ⟨hz, hA⟩ := gd_some h
  intro H locs ls hP hS hl
  exact lv_idiv hx hb hdg (by simpa using hz) (k hA H locs ls hP hS hl)
theorem l_irem {α : Type} {A : Option α} {z : α} (h0 : LX own cc nL rm X) {x y : Int32} (hdg : decode cc pc = .ok (.irem, 1)) (e : pc + 1 = pc') (h : gd (!(y == 0)) A = some z) (k : A = some z → LV X Ad nL cn sn P L pc' (.int (x - x / y * y) :: st)) : LV X Ad nL cn sn P L pc (.int y :: .int x :: st) := by
  obtain ⟨p, l, en, R, s, m, args, below, meth, c, Q⟩ := X
  obtain ⟨hx, hb, -⟩ := h0
  subst e
  obtain ⟨hz, hA⟩ := gd_some h
  intro H locs ls hP hS hl
  exact lv_irem hx hb hdg (by simpa using hz) (k hA H locs ls hP hS hl)
theorem l_goto (h0 : LX own cc nL rm X) {off : Int} (hdg : decode cc pc = .ok (.goto off, 3)) (e : (pc : Int) + off = (pc' : Int)) (k : LV X Ad nL cn sn P L pc' st) : LV X Ad nL cn sn P L pc st := by
  obtain ⟨p, l, en, R, s, m, args, below, meth, c, Q⟩ := X
  obtain ⟨hx, hb, -⟩ := h0
  intro H locs ls hP hS hl
  exact lv_goto hx hb hdg e (k H locs ls hP hS hl)
theorem l_dup (h0 : LX own cc nL rm X) {va : Value} (hdg : decode cc pc = .ok (.dup, 1)) (hc : va.category = 1) (e : pc + 1 = pc') (k : LV X Ad nL cn sn P L pc' (va :: va :: st)) : LV X Ad nL cn sn P L pc (va :: st) := by
  obtain ⟨p, l, en, R, s, m, args, below, meth, c, Q⟩ := X
  obtain ⟨hx, hb, -⟩ := h0
  subst e
  intro H locs ls hP hS hl
  exact lv_dup hx hb hdg hc (k H locs ls hP hS hl)
theorem l_widen {cn' sn' : Nat} (h1 : cn ≤ cn') (h2 : sn ≤ sn') (k : LV X Ad nL cn' sn' P L pc st) : LV X Ad nL cn sn P L pc st := by
  obtain ⟨p, l, en, R, s, m, args, below, meth, c, Q⟩ := X
  intro H locs ls hP hS hl
  exact W.widen h1 h2 (k H locs ls hP hS hl)
theorem l_imp {P' : Heap → Prop} (h : ∀ H, P H → P' H) (k : LV X Ad nL cn sn P' L pc st) : LV X Ad nL cn sn P L pc st := by
  obtain ⟨p, l, en, R, s, m, args, below, meth, c, Q⟩ := X
  intro H locs ls hP hS hl
  exact k H locs ls (h H hP) hS hl
end LW
section LB
variable {own : String} {cc : ByteArray} {nL : Nat} {rm : Room} {X : MX} {Ad : Nat → Prop} {cn sn : Nat} {P : Heap → Prop} {L L' : List (Nat × Value)} {pc pt pf : Nat} {st : List Value} {α : Type} {A B : Option α} {z : α} {off : Int}
theorem l_if_eq (h0 : LX own cc nL rm X) {x : Int32} (hdg : decode cc pc = .ok (.ifCond .eq off, 3)) (et : (pc : Int) + off = (pt : Int)) (ef : pc + 3 = pf) (h : (if x = 0 then A else B) = some z) (kt : x = 0 → A = some z → LV X Ad nL cn sn P L pt st) (kf : ¬ x = 0 → B = some z → LV X Ad nL cn sn P L pf st) : LV X Ad nL cn sn P L pc (.int x :: st) := by
  obtain ⟨p, l, en, R, s, m, args, below, meth, c, Q⟩ := X
  obtain ⟨hx, hb, -⟩ := h0
  subst ef
  intro H locs ls hP hS hl
  exact lv_if_eq hx hb hdg et (fun c => kt c (ite_tt h c) H locs ls hP hS hl) (fun c => kf c (ite_ff h c) H locs ls hP hS hl)
theorem l_if_ne (h0 : LX own cc nL rm X) {x : Int32} (hdg : decode cc pc = .ok (.ifCond .ne off, 3)) (et : (pc : Int) + off = (pt : Int)) (ef : pc + 3 = pf) (h : (if x = 0 then B else A) = some z) (kt : ¬ x = 0 → A = some z → LV X Ad nL cn sn P L pt st) (kf : x = 0 → B = some z → LV X Ad nL cn sn P L pf st) : LV X Ad nL cn sn P L pc (.int x :: st) := by
  obtain ⟨p, l, en, R, s, m, args, below, meth, c, Q⟩ := X
  obtain ⟨hx, hb, -⟩ := h0
  subst ef
  intro H locs ls hP hS hl
  exact lv_if_ne hx hb hdg et (fun c => kt c (ite_ff h c) H locs ls hP hS hl) (fun c => kf c (ite_tt h c) H locs ls hP hS hl)
theorem l_if_lt (h0 : LX own cc nL rm X) {x : Int32} (hdg : decode cc pc = .ok (.ifCond .lt off, 3)) (et : (pc : Int) + off = (pt : Int)) (ef : pc + 3 = pf) (h : (if x < 0 then A else B) = some z) (kt : x < 0 → A = some z → LV X Ad nL cn sn P L pt st) (kf : ¬ x < 0 → B = some z → LV X Ad nL cn sn P L pf st) : LV X Ad nL cn sn P L pc (.int x :: st) := by
  obtain ⟨p, l, en, R, s, m, args, below, meth, c, Q⟩ := X
  obtain ⟨hx, hb, -⟩ := h0
  subst ef
  intro H locs ls hP hS hl
  exact lv_if_lt hx hb hdg et (fun c => kt c (ite_tt h c) H locs ls hP hS hl) (fun c => kf c (ite_ff h c) H locs ls hP hS hl)
theorem l_if_ge (h0 : LX own cc nL rm X) {x : Int32} (hdg : decode cc pc = .ok (.ifCond .ge off, 3)) (et : (pc : Int) + off = (pt : Int)) (ef : pc + 3 = pf) (h : (if 0 ≤ x then A else B) = some z) (kt : 0 ≤ x → A = some z → LV X Ad nL cn sn P L pt st) (kf : ¬ 0 ≤ x → B = some z → LV X Ad nL cn sn P L pf st) : LV X Ad nL cn sn P L pc (.int x :: st) := by
  obtain ⟨p, l, en, R, s, m, args, below, meth, c, Q⟩ := X
  obtain ⟨hx, hb, -⟩ := h0
  subst ef
  intro H locs ls hP hS hl
  exact lv_if_ge hx hb hdg et (fun c => kt c (ite_tt h c) H locs ls hP hS hl) (fun c => kf c (ite_ff h c) H locs ls hP hS hl)
theorem l_if_gt (h0 : LX own cc nL rm X) {x : Int32} (hdg : decode cc pc = .ok (.ifCond .gt off, 3)) (et : (pc : Int) + off = (pt : Int)) (ef : pc + 3 = pf) (h : (if 0 < x then A else B) = some z) (kt : 0 < x → A = some z → LV X Ad nL cn sn P L pt st) (kf : ¬ 0 < x → B = some z → LV X Ad nL cn sn P L pf st) : LV X Ad nL cn sn P L pc (.int x :: st) := by
  obtain ⟨p, l, en, R, s, m, args, below, meth, c, Q⟩ := X
  obtain ⟨hx, hb, -⟩ := h0
  subst ef
  intro H locs ls hP hS hl
  exact lv_if_gt hx hb hdg et (fun c => kt c (ite_tt h c) H locs ls hP hS hl) (fun c => kf c (ite_ff h c) H locs ls hP hS hl)
theorem l_if_le (h0 : LX own cc nL rm X) {x : Int32} (hdg : decode cc pc = .ok (.ifCond .le off, 3)) (et : (pc : Int) + off = (pt : Int)) (ef : pc + 3 = pf) (h : (if x ≤ 0 then A else B) = some z) (kt : x ≤ 0 → A = some z → LV X Ad nL cn sn P L pt st) (kf : ¬ x ≤ 0 → B = some z → LV X Ad nL cn sn P L pf st) : LV X Ad nL cn sn P L pc (.int x :: st) := by
  obtain ⟨p, l, en, R, s, m, args, below, meth, c, Q⟩ := X
  obtain ⟨hx, hb, -⟩ := h0
  subst ef
  intro H locs ls hP hS hl
  exact lv_if_le hx hb hdg et (fun c => kt c (ite_tt h c) H locs ls hP hS hl) (fun c => kf c (ite_ff h c) H locs ls hP hS hl)
theorem l_ic_eq (h0 : LX own cc nL rm X) {x y : Int32} (hdg : decode cc pc = .ok (.if_icmp .eq off, 3)) (et : (pc : Int) + off = (pt : Int)) (ef : pc + 3 = pf) (h : (if x = y then A else B) = some z) (kt : x = y → A = some z → LV X Ad nL cn sn P L pt st) (kf : ¬ x = y → B = some z → LV X Ad nL cn sn P L pf st) : LV X Ad nL cn sn P L pc (.int y :: .int x :: st) := by
  obtain ⟨p, l, en, R, s, m, args, below, meth, c, Q⟩ := X
  obtain ⟨hx, hb, -⟩ := h0
  subst ef
  intro H locs ls hP hS hl
  exact lv_icmp_eq hx hb hdg et (fun c => kt c (ite_tt h c) H locs ls hP hS hl) (fun c => kf c (ite_ff h c) H locs ls hP hS hl)
theorem l_ic_ne (h0 : LX own cc nL rm X) {x y : Int32} (hdg : decode cc pc = .ok (.if_icmp .ne off, 3)) (et : (pc : Int) + off = (pt : Int)) (ef : pc + 3 = pf) (h : (if x = y then B else A) = some z) (kt : ¬ x = y → A = some z → LV X Ad nL cn sn P L pt st) (kf : x = y → B = some z → LV X Ad nL cn sn P L pf st) : LV X Ad nL cn sn P L pc (.int y :: .int x :: st) := by
  obtain ⟨p, l, en, R, s, m, args, below, meth, c, Q⟩ := X
  obtain ⟨hx, hb, -⟩ := h0
  subst ef
  intro H locs ls hP hS hl
  exact lv_icmp_ne hx hb hdg et (fun c => kt c (ite_ff h c) H locs ls hP hS hl) (fun c => kf c (ite_tt h c) H locs ls hP hS hl)
theorem l_ic_lt (h0 : LX own cc nL rm X) {x y : Int32} (hdg : decode cc pc = .ok (.if_icmp .lt off, 3)) (et : (pc : Int) + off = (pt : Int)) (ef : pc + 3 = pf) (h : (if x < y then A else B) = some z) (kt : x < y → A = some z → LV X Ad nL cn sn P L pt st) (kf : ¬ x < y → B = some z → LV X Ad nL cn sn P L pf st) : LV X Ad nL cn sn P L pc (.int y :: .int x :: st) := by
  obtain ⟨p, l, en, R, s, m, args, below, meth, c, Q⟩ := X
  obtain ⟨hx, hb, -⟩ := h0
  subst ef
  intro H locs ls hP hS hl
  exact lv_icmp_lt hx hb hdg et (fun c => kt c (ite_tt h c) H locs ls hP hS hl) (fun c => kf c (ite_ff h c) H locs ls hP hS hl)
theorem l_ic_ge (h0 : LX own cc nL rm X) {x y : Int32} (hdg : decode cc pc = .ok (.if_icmp .ge off, 3)) (et : (pc : Int) + off = (pt : Int)) (ef : pc + 3 = pf) (h : (if y ≤ x then A else B) = some z) (kt : y ≤ x → A = some z → LV X Ad nL cn sn P L pt st) (kf : ¬ y ≤ x → B = some z → LV X Ad nL cn sn P L pf st) : LV X Ad nL cn sn P L pc (.int y :: .int x :: st) := by
  obtain ⟨p, l, en, R, s, m, args, below, meth, c, Q⟩ := X
  obtain ⟨hx, hb, -⟩ := h0
  subst ef
  intro H locs ls hP hS hl
  exact lv_icmp_ge hx hb hdg et (fun c => kt c (ite_tt h c) H locs ls hP hS hl) (fun c => kf c (ite_ff h c) H locs ls hP hS hl)
theorem l_ic_gt (h0 : LX own cc nL rm X) {x y : Int32} (hdg : decode cc pc = .ok (.if_icmp .gt off, 3)) (et : (pc : Int) + off = (pt : Int)) (ef : pc + 3 = pf) (h : (if y < x then A else B) = some z) (kt : y < x → A = some z → LV X Ad nL cn sn P L pt st) (kf : ¬ y < x → B = some z → LV X Ad nL cn sn P L pf st) : LV X Ad nL cn sn P L pc (.int y :: .int x :: st) := by
  obtain ⟨p, l, en, R, s, m, args, below, meth, c, Q⟩ := X
  obtain ⟨hx, hb, -⟩ := h0
  subst ef
  intro H locs ls hP hS hl
  exact lv_icmp_gt hx hb hdg et (fun c => kt c (ite_tt h c) H locs ls hP hS hl) (fun c => kf c (ite_ff h c) H locs ls hP hS hl)
theorem l_ic_le (h0 : LX own cc nL rm X) {x y : Int32} (hdg : decode cc pc = .ok (.if_icmp .le off, 3)) (et : (pc : Int) + off = (pt : Int)) (ef : pc + 3 = pf) (h : (if x ≤ y then A else B) = some z) (kt : x ≤ y → A = some z → LV X Ad nL cn sn P L pt st) (kf : ¬ x ≤ y → B = some z → LV X Ad nL cn sn P L pf st) : LV X Ad nL cn sn P L pc (.int y :: .int x :: st) := by
  obtain ⟨p, l, en, R, s, m, args, below, meth, c, Q⟩ := X
  obtain ⟨hx, hb, -⟩ := h0
  subst ef
  intro H locs ls hP hS hl
  exact lv_icmp_le hx hb hdg et (fun c => kt c (ite_tt h c) H locs ls hP hS hl) (fun c => kf c (ite_ff h c) H locs ls hP hS hl)
end LB
/-- six slots a cell -/
abbrev LQ (X : MX) (A : Nat → Prop) (nL cn : Nat) (P : Heap → Prop) (L : List (Nat × Value)) (pc : Nat) (st : List Value) : Prop := LV X A nL cn (6 * cn) P L pc st
def NCL : List (String × String) := [("java/lang/IndexOutOfBoundsException", "java/lang/IllegalArgumentException"), ("java/lang/IllegalStateException", "java/lang/IllegalArgumentException"), ("java/lang/IllegalArgumentException", "java/lang/IndexOutOfBoundsException"), ("java/lang/IllegalStateException", "java/lang/IndexOutOfBoundsException"), ("java/lang/IndexOutOfBoundsException", "java/lang/IllegalStateException"), ("java/lang/IllegalArgumentException", "java/lang/IllegalStateException")]
def NCs (U : State) : Prop := ∀ q ∈ NCL, va_Nc q.1 q.2 U
theorem nc_moved {s U : State} (hvm : s.vm.Alike U.vm) (h : NCs s) : NCs U := fun q hq => va_Nc.moved hvm (h q hq)
theorem hp_frame {w : WX} {S : Mem} {B : Nat → Prop} {H H1 : Heap} (h : hp w S H) (hq : ∀ q : Nat, q < H.size → ¬ B q → H1[q]? = H[q]?) (hB : ∀ c k : Nat, k < wN w c → wA w c k < H.size → ¬ B (wA w c k)) : hp w S H1 := fun c k hk => (h c k hk).kept (hq _ (h c k hk).lt (hB c k hk (h c k hk).lt))
def isDD : Cond → Bool := isDC
theorem dw_of {i : Nat} {w : Cond} (h : lw_tbl[i]? = some w) (hg : isDC w = true) : w ∈ DW := List.mem_filter.mpr ⟨List.mem_of_getElem? h, hg⟩
/-- nothing of the one object is of the other -/
def aptC (g g2 : GC) : Prop := ∀ c k c' k' : Nat, k < wN (wC g) c → k' < wN (wC g2) c' → wA (wC g) c k ≠ wA (wC g2) c' k'
theorem aptC.symm {g g2 : GC} (h : aptC g g2) : aptC g2 g := fun c k c' k' hk hk' e => h c' k' c k hk' hk e.symm
/-- what a call on g leaves as it is -/
def stab (g : GC) (F : Heap → Prop) : Prop := ∀ H H1 : Heap, F H → (∀ q : Nat, q < H.size → ¬ AA (wC g) H.size q → H1[q]? = H[q]?) → F H1
theorem stab_T (g : GC) : stab g (fun _ => True) := fun _ _ _ _ => trivial
theorem stab_hp {g g2 : GC} {S2 : Mem} (h : aptC g g2) : stab g (hp (wC g2) S2) := fun H H1 hF hq => hp_frame hF hq (fun c k hk hlt z => by
  rcases z with ⟨c', k', hk', e⟩ | z
  · exact h c' k' c k hk' hk e.symm
  · exact absurd hlt (Nat.not_lt.mpr z))
/-- a method's context: the object g may be called -/
def KW (g : GC) (Ad : Nat → Prop) (X : MX) : Prop := match X with
  | (_, l, _, _, s, _, _, _, _, _, _) => va_K (wD (wC g)) (wCl (wC g)) (wTy (wC g)) s ∧ wok (wC g) ∧ l.stackTraces = false ∧ EXT s ∧ EXZ Ad s s.heap ∧ NCs s ∧ ∀ n q : Nat, s.heap.size ≤ n → AA (wC g) n q → Ad q
def EH (hh : List (Nat × Nat × Nat × Nat)) (X : MX) : Prop := match X with
  | (_, _, _, _, _, _, _, _, _, c, _) => c.exceptionTable.toList = tableOf hh
/-- what a method of one object asks, and of two -/
def P1x (g : GC) (av : List Value) (S : Mem) (sz : Nat) : Array Value → State → Prop := va_Pc av (fun U => U.heap.size = sz ∧ hp (wC g) S U.heap ∧ va_K (wD (wC g)) (wCl (wC g)) (wTy (wC g)) U ∧ wok (wC g) ∧ (∀ t ∈ NW, va_Nw t U) ∧ EXT U ∧ EXZ (AA (wC g) sz) U U.heap ∧ NCs U)
theorem p1_blind {g : GC} {av : List Value} {S : Mem} {sz : Nat} : FrameBlind (P1x g av S sz) := by
  intro a U f mk h
  obtain ⟨h1, h2, h3, h4, h5, h6, h7, h8, h9⟩ := h
  exact ⟨h1, h2, h3, va_K.moved (u := U) (U := U.calling f mk a) (Vm.Alike.refl U.vm) h4, h5, nw_calling h6, ext_same (s := U) (U := U.calling f mk a) rfl h7, exz_moved (s := U) (U := U.calling f mk a) (Vm.Alike.refl U.vm) h8, nc_moved (s := U) (U := U.calling f mk a) (Vm.Alike.refl U.vm) h9⟩
def A2 (g g2 : GC) (sz : Nat) : Nat → Prop := fun q => AA (wC g) sz q ∨ AA (wC g2) sz q
theorem A2_up {g g2 : GC} {a b : Nat} (h : a ≤ b) : ∀ q, A2 g g2 b q → A2 g g2 a q := fun q hq => hq.imp (AA_up h q) (AA_up h q)
def P2x (g g2 : GC) (av : List Value) (S S2 : Mem) (sz : Nat) : Array Value → State → Prop := va_Pc av (fun U => U.heap.size = sz ∧ (hp (wC g) S U.heap ∧ hp (wC g2) S2 U.heap) ∧ (va_K (wD (wC g)) (wCl (wC g)) (wTy (wC g)) U ∧ va_K (wD (wC g2)) (wCl (wC g2)) (wTy (wC g2)) U) ∧ (wok (wC g) ∧ wok (wC g2) ∧ aptC g g2) ∧ (∀ t ∈ NW, va_Nw t U) ∧ EXT U ∧ EXZ (A2 g g2 sz) U U.heap ∧ NCs U)
theorem p2_blind {g g2 : GC} {av : List Value} {S S2 : Mem} {sz : Nat} : FrameBlind (P2x g g2 av S S2 sz) := by
  intro a U f mk h
  obtain ⟨h1, h2, h3, ⟨h4, h4'⟩, h5, h6, h7, h8, h9⟩ := h
  exact ⟨h1, h2, h3, ⟨va_K.moved (u := U) (U := U.calling f mk a) (Vm.Alike.refl U.vm) h4, va_K.moved (u := U) (U := U.calling f mk a) (Vm.Alike.refl U.vm) h4'⟩, h5, nw_calling h6, ext_same (s := U) (U := U.calling f mk a) rfl h7, exz_moved (s := U) (U := U.calling f mk a) (Vm.Alike.refl U.vm) h8, nc_moved (s := U) (U := U.calling f mk a) (Vm.Alike.refl U.vm) h9⟩
/-- THE CONTRACTS of the law's methods: the answer r, nothing thrown -/
def ct1 (y : MethodName) (cw : Cond) (rm : Room) (mc : Nat) (g : GC) (av : List Value) (S : Mem) (r : Int32) (S' : Mem) : Prop :=
  ∀ (l : Launch) (sz : Nat), l.stackTraces = false → vx_Met l y (cw :: GW) rm (P1x g av S sz) (Qx none (some (.int r)) (hp (wC g) S') (AA (wC g) sz)) (fun _ _ _ => False) mc (6 * mc) (AA (wC g) sz)
def ct2 (y : MethodName) (cw : Cond) (rm : Room) (mc : Nat) (g g2 : GC) (av : List Value) (S S2 : Mem) (r : Int32) (S' S2' : Mem) : Prop :=
  ∀ (l : Launch) (sz : Nat), l.stackTraces = false → vx_Met l y (cw :: GW) rm (P2x g g2 av S S2 sz) (Qx none (some (.int r)) (fun H => hp (wC g) S' H ∧ hp (wC g2) S2' H) (A2 g g2 sz)) (fun _ _ _ => False) mc (6 * mc) (A2 g g2 sz)
def E1 (ret : Option FieldType) (r : Int32) (g : GC) (S' : Mem) (mc : Nat) (X : MX) : Prop := match X with
  | (_, _, _, _, s, _, args, below, meth, _, Q) => meth.sig.returnType = ret ∧ Q = vx_MQ below (Qx none (some (.int r)) (hp (wC g) S') (AA (wC g) s.heap.size)) (fun _ _ _ => False) args s mc (6 * mc) (AA (wC g) s.heap.size)
def E2 (ret : Option FieldType) (r : Int32) (g g2 : GC) (S' S2' : Mem) (mc : Nat) (X : MX) : Prop := match X with
  | (_, _, _, _, s, _, args, below, meth, _, Q) => meth.sig.returnType = ret ∧ Q = vx_MQ below (Qx none (some (.int r)) (fun H => hp (wC g) S' H ∧ hp (wC g2) S2' H) (A2 g g2 s.heap.size)) (fun _ _ _ => False) args s mc (6 * mc) (A2 g g2 s.heap.size)
abbrev D1 (g : GC) (X : MX) : Nat → Prop := AA (wC g) X.2.2.2.2.1.heap.size
abbrev D2 (g g2 : GC) (X : MX) : Nat → Prop := A2 g g2 X.2.2.2.2.1.heap.size
/-- the heap's picture in a method of one object, of two -/
abbrev pW (g : GC) (S : Mem) : Heap → Prop := fun H => hp (wC g) S H ∧ True
abbrev pW2 (g g2 : GC) (S S2 : Mem) : Heap → Prop := fun H => hp (wC g) S H ∧ hp (wC g2) S2 H
section MK
variable {own : String} {y : MethodName} {cc : ByteArray} {nL mc : Nat} {ret : Option FieldType} {hh : List (Nat × Nat × Nat × Nat)} {rm : Room} {g g2 : GC} {av : List Value} {S S' S2 S2' : Mem} {r : Int32} {L : List (Nat × Value)}
theorem ct1_of (hy : plainName y.cls = true) (hyo : y.cls = own) (hn : (lg_sl av).length ≤ nL) (hL : lv_args 0 av = L)
    (body : ∀ X : MX, LX own cc nL rm X → KW g (D1 g X) X → E1 ret r g S' mc X → LQ X (D1 g X) nL 0 (pW g S) L 0 []) : ct1 y (.code y cc nL ret) rm mc g av S r S' := by
  intro l sz hl
  refine vx_ofW (cc := cc) (maxL := nL) (ret := ret) hy rfl ?_
  intro p e s m args below meth c s₁ B hml htb hv
  obtain ⟨rfl, rfl, hP, hK, hw, hN, hT, hZ, hC⟩ := hv
  have hown : s.vm.findClass own = some m.cls := by
    rw [← hyo]
    exact findClass_of_methodNamed B.named
  have hts : ∀ t ∈ GW, t.before av.toArray s = true := fun t ht => atoms_spec (ws := .code y cc nL ret :: GW) B.pre t (List.mem_cons_of_mem _ ht)
  have hb := body (p, l, e, rm, s, m, av.toArray, below, meth, c, vx_MQ below (Qx none (some (.int r)) (hp (wC g) S') (AA (wC g) s.heap.size)) (fun _ _ _ => False) av.toArray s mc (6 * mc) (AA (wC g) s.heap.size)) ⟨B.exec, B.bytes, hml, hown, hts, hN, B.notSynchronized, rfl⟩ ⟨hK, hw, hl, hT, hZ, hC, fun n q hn hq => AA_up hn q hq⟩ ⟨B.returns, rfl⟩
  have hl := lv_entry av (n := nL) hn
  rw [lg_entry_eq]
  rw [hL] at hl
  exact hb s.heap [] _ ⟨hP, trivial⟩ va_S.rf hl
theorem ct1_ofH (hy : plainName y.cls = true) (hyo : y.cls = own) (hn : (lg_sl av).length ≤ nL) (hL : lv_args 0 av = L)
    (body : ∀ X : MX, LX own cc nL rm X → KW g (D1 g X) X → EH hh X → E1 ret r g S' mc X → LQ X (D1 g X) nL 0 (pW g S) L 0 []) : ct1 y (.codeWith y cc nL ret hh) rm mc g av S r S' := by
  intro l sz hl
  refine vx_ofWH (cc := cc) (maxL := nL) (ret := ret) (hh := hh) hy rfl ?_
  intro p e s m args below meth c s₁ B hml hv
  obtain ⟨rfl, rfl, hP, hK, hw, hN, hT, hZ, hC⟩ := hv
  have hown : s.vm.findClass own = some m.cls := by
    rw [← hyo]
    exact findClass_of_methodNamed B.named
  have hall := atoms_spec (ws := .codeWith y cc nL ret hh :: GW) B.pre
  have hts : ∀ t ∈ GW, t.before av.toArray s = true := fun t ht => hall t (List.mem_cons_of_mem _ ht)
  have htab : c.exceptionTable.toList = tableOf hh := vx_table (x := y) B (hall _ List.mem_cons_self)
  have hb := body (p, l, e, rm, s, m, av.toArray, below, meth, c, vx_MQ below (Qx none (some (.int r)) (hp (wC g) S') (AA (wC g) s.heap.size)) (fun _ _ _ => False) av.toArray s mc (6 * mc) (AA (wC g) s.heap.size)) ⟨B.exec, B.bytes, hml, hown, hts, hN, B.notSynchronized, rfl⟩ ⟨hK, hw, hl, hT, hZ, hC, fun n q hn hq => AA_up hn q hq⟩ htab ⟨B.returns, rfl⟩
  have hl := lv_entry av (n := nL) hn
  rw [lg_entry_eq]
  rw [hL] at hl
  exact hb s.heap [] _ ⟨hP, trivial⟩ va_S.rf hl
theorem ct2_of (hy : plainName y.cls = true) (hyo : y.cls = own) (hn : (lg_sl av).length ≤ nL) (hL : lv_args 0 av = L)
    (body : ∀ X : MX, LX own cc nL rm X → KW g (D2 g g2 X) X → KW g2 (D2 g g2 X) X → aptC g g2 → E2 ret r g g2 S' S2' mc X → LQ X (D2 g g2 X) nL 0 (pW2 g g2 S S2) L 0 []) : ct2 y (.code y cc nL ret) rm mc g g2 av S S2 r S' S2' := by
  intro l sz hl
  refine vx_ofW (cc := cc) (maxL := nL) (ret := ret) hy rfl ?_
  intro p e s m args below meth c s₁ B hml htb hv
  obtain ⟨rfl, rfl, hP, ⟨hK, hK2⟩, ⟨hw, hw2, ha⟩, hN, hT, hZ, hC⟩ := hv
  have hown : s.vm.findClass own = some m.cls := by
    rw [← hyo]
    exact findClass_of_methodNamed B.named
  have hts : ∀ t ∈ GW, t.before av.toArray s = true := fun t ht => atoms_spec (ws := .code y cc nL ret :: GW) B.pre t (List.mem_cons_of_mem _ ht)
  have hb := body (p, l, e, rm, s, m, av.toArray, below, meth, c, vx_MQ below (Qx none (some (.int r)) (fun H => hp (wC g) S' H ∧ hp (wC g2) S2' H) (A2 g g2 s.heap.size)) (fun _ _ _ => False) av.toArray s mc (6 * mc) (A2 g g2 s.heap.size)) ⟨B.exec, B.bytes, hml, hown, hts, hN, B.notSynchronized, rfl⟩ ⟨hK, hw, hl, hT, hZ, hC, fun n q hn hq => Or.inl (AA_up hn q hq)⟩ ⟨hK2, hw2, hl, hT, hZ, hC, fun n q hn hq => Or.inr (AA_up hn q hq)⟩ ha ⟨B.returns, rfl⟩
  have hl := lv_entry av (n := nL) hn
  rw [lg_entry_eq]
  rw [hL] at hl
  exact hb s.heap [] _ hP va_S.rf hl
end MK
section QR
variable {own : String} {cc : ByteArray} {nL : Nat} {rm : Room} {X : MX} {Ad : Nat → Prop} {cn mc : Nat} {L : List (Nat × Value)} {pc pc' : Nat} {st : List Value} {g g2 : GC} {S S' S2 S2' : Mem} {F : Heap → Prop} {r : Int32}
theorem q_iret (h0 : LX own cc nL rm X) (hE : E1 (some .int) r g S' mc X) {x : Int32} (hdg : decode cc pc = .ok (.ireturn, 1)) (hc : cn ≤ mc) (hr : some (x, S) = some (r, S')) : LQ X (D1 g X) nL cn (pW g S) L pc [.int x] := by
  obtain ⟨p, l, en, R, s, m, args, below, meth, c, Q⟩ := X
  obtain ⟨hx, hb, -, -, -, -, hlk, -⟩ := h0
  obtain ⟨h1, h2⟩ := hE
  cases hr
  subst h2
  intro H locs ls hP hS hl
  exact W.widen hc (Nat.mul_le_mul_left 6 hc) (vx_ret (W.iret hx hb h1 (fun t ht hW => ⟨⟨rfl, rfl, by rw [ht]; exact hP.1⟩, hS.F ht⟩) hS.2.2 hdg hlk))
theorem q_zret (h0 : LX own cc nL rm X) (hE : E1 (some .boolean) r g S' mc X) {x : Int32} (hdg : decode cc pc = .ok (.ireturn, 1)) (hc : cn ≤ mc) (hr : some (nb x, S) = some (r, S')) : LQ X (D1 g X) nL cn (pW g S) L pc [.int x] := by
  obtain ⟨p, l, en, R, s, m, args, below, meth, c, Q⟩ := X
  obtain ⟨hx, hb, -, -, -, -, hlk, -⟩ := h0
  obtain ⟨h1, h2⟩ := hE
  cases hr
  subst h2
  intro H locs ls hP hS hl
  exact W.widen hc (Nat.mul_le_mul_left 6 hc) (vx_ret (W_zretN hx hb h1 rfl (fun t ht hW => ⟨⟨rfl, rfl, by rw [ht]; exact hP.1⟩, hS.F ht⟩) hS.2.2 hdg hlk))
theorem q_iretR (h0 : LX own cc nL rm X) (hE : E1 (some .int) r g S mc X) {x : Int32} (hdg : decode cc pc = .ok (.ireturn, 1)) (hc : cn ≤ mc) (hr : some x = some r) : LQ X (D1 g X) nL cn (pW g S) L pc [.int x] := q_iret h0 hE hdg hc (by rw [Option.some.inj hr])
theorem q_zretR (h0 : LX own cc nL rm X) (hE : E1 (some .boolean) r g S mc X) {x : Int32} (hdg : decode cc pc = .ok (.ireturn, 1)) (hc : cn ≤ mc) (hr : some (nb x) = some r) : LQ X (D1 g X) nL cn (pW g S) L pc [.int x] := q_zret h0 hE hdg hc (by rw [Option.some.inj hr])
theorem q_zret2 (h0 : LX own cc nL rm X) (hE : E2 (some .boolean) r g g2 S' S2' mc X) {x : Int32} (hdg : decode cc pc = .ok (.ireturn, 1)) (hc : cn ≤ mc) (hr : some (nb x, S, S2) = some (r, S', S2')) : LQ X (D2 g g2 X) nL cn (pW2 g g2 S S2) L pc [.int x] := by
  obtain ⟨p, l, en, R, s, m, args, below, meth, c, Q⟩ := X
  obtain ⟨hx, hb, -, -, -, -, hlk, -⟩ := h0
  obtain ⟨h1, h2⟩ := hE
  cases hr
  subst h2
  intro H locs ls hP hS hl
  exact W.widen hc (Nat.mul_le_mul_left 6 hc) (vx_ret (W_zretN hx hb h1 rfl (fun t ht hW => ⟨⟨rfl, rfl, by rw [ht]; exact hP⟩, hS.F ht⟩) hS.2.2 hdg hlk))
/-- a method of the class that throws nothing -/
theorem q_callV {idx maxL n : Nat} {y : MethodName} {bytes : ByteArray} {ret : Option FieldType} {rc : Room} {o : Option Value} (hl : Cond.methodLink own idx y ∈ GW) (hi : Cond.instanceMethod y ∈ GW) (hs : Cond.selects RX7 y y ∈ GW) (hc : Cond.code y bytes maxL ret ∈ GW) (hini : Cond.initialized y.cls ∈ GW) (hd : plainY y n) (As rest : List Value) (h0 : LX own cc nL rm X) (hK : KW g Ad X) (hF : stab g F) (hM : ctN y bytes maxL ret rc (wC g) (.ref (wA (wC g) 7 0) :: As) S o S') (hst : st = As.reverse ++ .ref (wA (wC g) 7 0) :: rest) (hn : As.length = n) (hdg : decode cc pc = .ok (.invokevirtual idx, 3)) (e : pc + 3 = pc') (hW : (rest.map fun v => v.category).sum ≤ 8) (hR : rc.cells = 0 ∧ rc.slots = 0 ∧ rc.frames + 1 ≤ rm.frames ∧ 8 + (maxL + 11) + rc.locals ≤ rm.locals) (hcs : cn ≤ rm.cells ∧ 6 * cn ≤ rm.slots)
    (kk : LQ X Ad nL cn (fun H => hp (wC g) S' H ∧ F H) L pc' (o.toList ++ rest)) : LQ X Ad nL cn (fun H => hp (wC g) S H ∧ F H) L pc st := by
  obtain ⟨p, l, en, R, s, m, args, below, meth, c, Q⟩ := X
  obtain ⟨hx, hb, hml, hown, hts, hN, hlk', rfl⟩ := h0
  obtain ⟨hK0, hw, -, -, -, -, hAd⟩ := hK
  subst e
  subst hst
  intro H locs ls hPH hS hls
  have hP0 := hPH.1
  have hrun := va_runV (As := As) (rest := rest) (p := p) (e := en) (below := below) (meth := meth) (locs := locs) (cells := cn) (slots := 6 * cn) (g := F0 m pc ls (As.reverse ++ .ref (wA (wC g) 7 0) :: rest)) ⟨hx, hb, hml, hown, hts⟩ (hM l H.size) ⟨callB_of n hts (goodGW hc) rfl hR.1 hR.2.1 (hts _ hini) (hts _ hl) hd ⟨hR.2.2.1, hR.2.2.2⟩, hts _ hi, hts _ hs⟩ ⟨pc_blind, grecv (ob_7 g) hP0 hK0 (Nat.le_of_ble_eq_true rfl), pc_in hP0 hK0 hN hw⟩ rfl hn hls.1 rfl (lv_room hW) hdg ⟨hcs.1, hcs.2⟩
  intro T hT X
  obtain ⟨v, st₀, t, T', Lo, h0, X', hL, e1, e2, ⟨⟨hv, hb1⟩, hz, hk1⟩, st⟩ := hrun T hT X
  cases hv
  rw [h0] at hz hk1
  have hAA := fun q h => hAd H.size q hS.1 h
  obtain ⟨t2, a1, b1⟩ := kk T'.heap (locs ++ Lo) ls (by
      rw [e1]
      exact ⟨hb1, hF H _ hPH.2 hk1⟩)
    ⟨Nat.le_trans hS.1 (by rw [e1]; exact hz), fun q h1 h2 => by rw [e1, hk1 q (Nat.lt_of_lt_of_le h1 hS.1) (fun z => h2 (hAA q z))]; exact hS.2.1 q h1 h2, fun q hq => by
      rcases List.mem_append.mp hq with h | h
      · exact hS.2.2 q h
      · exact hAA _ (hL q h)⟩ hls T' rfl X'
  exact ⟨t2, st t2 a1, b1⟩
theorem q_callS {idx maxL n : Nat} {y : MethodName} {bytes : ByteArray} {ret : Option FieldType} {rc : Room} {o : Option Value} (hl : Cond.methodLink own idx y ∈ GW) (hi : Cond.static y ∈ GW) (hc : Cond.code y bytes maxL ret ∈ GW) (hini : Cond.initialized y.cls ∈ GW) (hd : plainY y n) (As rest : List Value) (h0 : LX own cc nL rm X) (hK : KW g Ad X) (hF : stab g F) (hM : ctN y bytes maxL ret rc (wC g) As S o S') (hst : st = As.reverse ++ rest) (hn : As.length = n) (hdg : decode cc pc = .ok (.invokestatic idx, 3)) (e : pc + 3 = pc') (hW : (rest.map fun v => v.category).sum ≤ 8) (hR : rc.cells = 0 ∧ rc.slots = 0 ∧ rc.frames + 1 ≤ rm.frames ∧ 8 + (maxL + 11) + rc.locals ≤ rm.locals) (hcs : cn ≤ rm.cells ∧ 6 * cn ≤ rm.slots)
    (kk : LQ X Ad nL cn (fun H => hp (wC g) S' H ∧ F H) L pc' (o.toList ++ rest)) : LQ X Ad nL cn (fun H => hp (wC g) S H ∧ F H) L pc st := by
  obtain ⟨p, l, en, R, s, m, args, below, meth, c, Q⟩ := X
  obtain ⟨hx, hb, hml, hown, hts, hN, hlk', rfl⟩ := h0
  obtain ⟨hK0, hw, -, -, -, -, hAd⟩ := hK
  subst e
  subst hst
  intro H locs ls hPH hS hls
  have hP0 := hPH.1
  have hrun := va_runS (As := As) (rest := rest) (p := p) (e := en) (below := below) (meth := meth) (locs := locs) (cells := cn) (slots := 6 * cn) (g := F0 m pc ls (As.reverse ++ rest)) ⟨hx, hb, hml, hown, hts⟩ (hM l H.size) ⟨callB_of n hts (goodGW hc) rfl hR.1 hR.2.1 (hts _ hini) (hts _ hl) hd ⟨hR.2.2.1, hR.2.2.2⟩, hts _ hi⟩ ⟨pc_blind, pc_in hP0 hK0 hN hw⟩ rfl hn hls.1 rfl (lv_room hW) hdg ⟨hcs.1, hcs.2⟩
  intro T hT X
  obtain ⟨v, st₀, t, T', Lo, h0, X', hL, e1, e2, ⟨⟨hv, hb1⟩, hz, hk1⟩, st⟩ := hrun T hT X
  cases hv
  rw [h0] at hz hk1
  have hAA := fun q h => hAd H.size q hS.1 h
  obtain ⟨t2, a1, b1⟩ := kk T'.heap (locs ++ Lo) ls (by
      rw [e1]
      exact ⟨hb1, hF H _ hPH.2 hk1⟩)
    ⟨Nat.le_trans hS.1 (by rw [e1]; exact hz), fun q h1 h2 => by rw [e1, hk1 q (Nat.lt_of_lt_of_le h1 hS.1) (fun z => h2 (hAA q z))]; exact hS.2.1 q h1 h2, fun q hq => by
      rcases List.mem_append.mp hq with h | h
      · exact hS.2.2 q h
      · exact hAA _ (hL q h)⟩ hls T' rfl X'
  exact ⟨t2, st t2 a1, b1⟩
end QR
/-- where q9 has been thrown at pc -/
abbrev TX (X : MX) (Ad : Nat → Prop) (nL cn : Nat) (P : Heap → Prop) (L : List (Nat × Value)) (pc : Nat) (rest : List Value) (E : Nat) : Prop := ∀ (H : Heap) (locs : List Loc) (ls : Array Slot) (q9 : Addr) (ce : Cell), P H → va_S Ad X.2.2.2.2.1.heap H locs → lv_has ls nL L → H[q9]? = some ce → ce.vm = .none → X.2.2.2.2.1.vm.findClass (exN E) = some ce.cls → vx_W X.1 X.2.1 X.2.2.1 X.2.2.2.1 X.2.2.2.2.1 X.2.2.2.2.2.1 X.2.2.2.2.2.2.1 X.2.2.2.2.2.2.2.1 X.2.2.2.2.2.2.2.2.1 X.2.2.2.2.2.2.2.2.2.1 H locs cn (6 * cn) X.2.2.2.2.2.2.2.2.2.2 (F0 X.2.2.2.2.2.1 pc ls rest) q9
section QX
variable {own : String} {cc : ByteArray} {nL : Nat} {rm : Room} {X : MX} {Ad : Nat → Prop} {cn mc : Nat} {L : List (Nat × Value)} {pc pc' : Nat} {st : List Value} {g g2 : GC} {S S' S2 S2' : Mem} {F : Heap → Prop} {r : Int32} {hh : List (Nat × Nat × Nat × Nat)}
/-- a method of the class that may throw -/
theorem q_callXV {idx maxL n uc : Nat} {y : MethodName} {bytes : ByteArray} {ret : Option FieldType} {rc : Room} {α : Type} {z : Nat ⊕ α} {ov : α → Option Value} (hlk1 : Cond.methodLink own idx y ∈ GW) (hi : Cond.instanceMethod y ∈ GW) (hs : Cond.selects RX7 y y ∈ GW) (hc : Cond.code y bytes maxL ret ∈ GW) (hini : Cond.initialized y.cls ∈ GW) (hd : plainY y n)
    (As rest : List Value) (h0 : LX own cc nL rm X) (hK : KW g Ad X) (hF : stab g F) (hM : ctX y bytes maxL ret rc uc (6 * uc) (wC g) (.ref (wA (wC g) 7 0) :: As) S (tOf z) (oOf ov z) S2) (hst : st = As.reverse ++ .ref (wA (wC g) 7 0) :: rest) (hn : As.length = n) (hdg : decode cc pc = .ok (.invokevirtual idx, 3)) (e : pc + 3 = pc') (hW8 : (rest.map fun v => v.category).sum ≤ 8) (hR : rc.cells = uc ∧ rc.slots = 6 * uc ∧ rc.frames + 1 ≤ rm.frames ∧ 8 + (maxL + 11) + rc.locals ≤ rm.locals) (hcs : cn + uc ≤ rm.cells ∧ 6 * (cn + uc) ≤ rm.slots)
    (kx : ∀ (E : Nat), z = .inl E → TX X Ad nL (cn + uc) (fun H => hp (wC g) S2 H ∧ F H) L pc rest E)
    (kk : ∀ v, z = .inr v → LQ X Ad nL (cn + uc) (fun H => hp (wC g) S2 H ∧ F H) L pc' ((ov v).toList ++ rest)) : LQ X Ad nL cn (fun H => hp (wC g) S H ∧ F H) L pc st := by
  obtain ⟨p, l, en, R, s, m, args, below, meth, c, Q⟩ := X
  obtain ⟨hx, hb, hml, hown, hts, hN, hlk, rfl⟩ := h0
  obtain ⟨hK0, hw, hstt, hT0, hZ, hC, hAd⟩ := hK
  subst hst
  subst e
  have e6 : 6 * cn + 6 * uc = 6 * (cn + uc) := by omega
  intro H locs ls hP hS hls
  have hsub : ∀ q, AA (wC g) H.size q → Ad q := fun q h => hAd H.size q hS.1 h
  have hpre : ∀ U : State, U.heap = H → s.WarmedH U.vm → PXx (wC g) (.ref (wA (wC g) 7 0) :: As) S H.size (.ref (wA (wC g) 7 0) :: As : List Value).toArray U := fun U hU hW => ⟨rfl, by rw [hU], by rw [hU]; exact hP.1, va_K.moved hW.alike hK0, nw_warm hW hN, hw, ext_warm hW hT0, by rw [hU]; exact exz_narrow (exz_moved hW.alike (exz_kept hZ hS.2.1)) hsub⟩
  intro T hT X
  rcases vx_runV (As := As) (rest := rest) (cells := cn) (slots := 6 * cn) ⟨hx, hb, hml, hown, hts⟩ (hM l H.size hstt) ⟨callB_of n hts (goodGW hc) rfl hR.1 hR.2.1 (hts _ hini) (hts _ hlk1) hd ⟨hR.2.2.1, hR.2.2.2⟩, hts _ hi, hts _ hs⟩ ⟨px_blind, grecv (ob_7 g) hP.1 hK0 (Nat.le_of_ble_eq_true rfl), hpre⟩ (g := F0 m pc ls (As.reverse ++ .ref (wA (wC g) 7 0) :: rest)) rfl hn hls.1 rfl (lv_room hW8) hdg ⟨hcs.1, by omega⟩ T hT X with ⟨v, st₀, t', T', Lo, h0, X', hL, e1, e2, ⟨⟨ht, hv, hb1⟩, hF1⟩, st⟩ | ⟨q, st₀, t', T', Lo, E, ce, h0, X', hL, e1, e2, ⟨⟨ht, hb1⟩, hF1⟩, hce, hcv, hcl, st⟩
  · cases hv
    obtain ⟨k1, k2, k3⟩ := vx_keep h0 e1 hS (fun q _ h => hsub q h) (fun q h => hsub q h) hL hF1
    cases z with
    | inl n => cases ht
    | inr v =>
      have k4 := kk v rfl T'.heap (locs ++ Lo) ls ⟨by rw [e1]; exact hb1, hF H _ hP.2 k2⟩ k3 hls
      rw [← e6] at k4
      obtain ⟨t2, a1, b1⟩ := k4 T' rfl X'
      exact ⟨t2, st t2 a1, b1⟩
  · obtain ⟨k1, k2, k3⟩ := vx_keep h0 e1 hS (fun q _ h => hsub q h) (fun q h => hsub q h) hL hF1
    cases z with
    | inr v => cases ht
    | inl n =>
      cases ht
      have k4 := kx n rfl T'.heap (locs ++ Lo) ls q ce ⟨by rw [e1]; exact hb1, hF H _ hP.2 k2⟩ k3 hls (by rw [e1]; exact hce) hcv hcl
      rw [← e6] at k4
      obtain ⟨t2, a1, b1⟩ := k4 T' rfl X'
      exact ⟨t2, st.trans a1, b1⟩
theorem q_callXS {idx maxL n uc : Nat} {y : MethodName} {bytes : ByteArray} {ret : Option FieldType} {rc : Room} {α : Type} {z : Nat ⊕ α} {ov : α → Option Value} (hlk1 : Cond.methodLink own idx y ∈ GW) (hi : Cond.static y ∈ GW) (hc : Cond.code y bytes maxL ret ∈ GW) (hini : Cond.initialized y.cls ∈ GW) (hd : plainY y n)
    (As rest : List Value) (h0 : LX own cc nL rm X) (hK : KW g Ad X) (hF : stab g F) (hM : ctX y bytes maxL ret rc uc (6 * uc) (wC g) As S (tOf z) (oOf ov z) S2) (hst : st = As.reverse ++ rest) (hn : As.length = n) (hdg : decode cc pc = .ok (.invokestatic idx, 3)) (e : pc + 3 = pc') (hW8 : (rest.map fun v => v.category).sum ≤ 8) (hR : rc.cells = uc ∧ rc.slots = 6 * uc ∧ rc.frames + 1 ≤ rm.frames ∧ 8 + (maxL + 11) + rc.locals ≤ rm.locals) (hcs : cn + uc ≤ rm.cells ∧ 6 * (cn + uc) ≤ rm.slots)
    (kx : ∀ (E : Nat), z = .inl E → TX X Ad nL (cn + uc) (fun H => hp (wC g) S2 H ∧ F H) L pc rest E)
    (kk : ∀ v, z = .inr v → LQ X Ad nL (cn + uc) (fun H => hp (wC g) S2 H ∧ F H) L pc' ((ov v).toList ++ rest)) : LQ X Ad nL cn (fun H => hp (wC g) S H ∧ F H) L pc st := by
  obtain ⟨p, l, en, R, s, m, args, below, meth, c, Q⟩ := X
  obtain ⟨hx, hb, hml, hown, hts, hN, hlk, rfl⟩ := h0
  obtain ⟨hK0, hw, hstt, hT0, hZ, hC, hAd⟩ := hK
  subst hst
  subst e
  have e6 : 6 * cn + 6 * uc = 6 * (cn + uc) := by omega
  intro H locs ls hP hS hls
  have hsub : ∀ q, AA (wC g) H.size q → Ad q := fun q h => hAd H.size q hS.1 h
  have hpre : ∀ U : State, U.heap = H → s.WarmedH U.vm → PXx (wC g) As S H.size As.toArray U := fun U hU hW => ⟨rfl, by rw [hU], by rw [hU]; exact hP.1, va_K.moved hW.alike hK0, nw_warm hW hN, hw, ext_warm hW hT0, by rw [hU]; exact exz_narrow (exz_moved hW.alike (exz_kept hZ hS.2.1)) hsub⟩
  intro T hT X
  rcases vx_runS (As := As) (rest := rest) (cells := cn) (slots := 6 * cn) ⟨hx, hb, hml, hown, hts⟩ (hM l H.size hstt) ⟨callB_of n hts (goodGW hc) rfl hR.1 hR.2.1 (hts _ hini) (hts _ hlk1) hd ⟨hR.2.2.1, hR.2.2.2⟩, hts _ hi⟩ ⟨px_blind, hpre⟩ (g := F0 m pc ls (As.reverse ++ rest)) rfl hn hls.1 rfl (lv_room hW8) hdg ⟨hcs.1, by omega⟩ T hT X with ⟨v, st₀, t', T', Lo, h0, X', hL, e1, e2, ⟨⟨ht, hv, hb1⟩, hF1⟩, st⟩ | ⟨q, st₀, t', T', Lo, E, ce, h0, X', hL, e1, e2, ⟨⟨ht, hb1⟩, hF1⟩, hce, hcv, hcl, st⟩
  · cases hv
    obtain ⟨k1, k2, k3⟩ := vx_keep h0 e1 hS (fun q _ h => hsub q h) (fun q h => hsub q h) hL hF1
    cases z with
    | inl n => cases ht
    | inr v =>
      have k4 := kk v rfl T'.heap (locs ++ Lo) ls ⟨by rw [e1]; exact hb1, hF H _ hP.2 k2⟩ k3 hls
      rw [← e6] at k4
      obtain ⟨t2, a1, b1⟩ := k4 T' rfl X'
      exact ⟨t2, st t2 a1, b1⟩
  · obtain ⟨k1, k2, k3⟩ := vx_keep h0 e1 hS (fun q _ h => hsub q h) (fun q h => hsub q h) hL hF1
    cases z with
    | inr v => cases ht
    | inl n =>
      cases ht
      have k4 := kx n rfl T'.heap (locs ++ Lo) ls q ce ⟨by rw [e1]; exact hb1, hF H _ hP.2 k2⟩ k3 hls (by rw [e1]; exact hce) hcv hcl
      rw [← e6] at k4
      obtain ⟨t2, a1, b1⟩ := k4 T' rfl X'
      exact ⟨t2, st.trans a1, b1⟩
/-- caught: the row x, behind rows that don't take it -/
theorem q_catch {P : Heap → Prop} {pre suf : List ExceptionTableEntry} {x : ExceptionTableEntry} {E : Nat} (h0 : LX own cc nL rm X) (hK : KW g Ad X) (hE : EH hh X) (hsplit : tableOf hh = pre ++ x :: suf) (hpass : ∀ z ∈ pre, z.catchType ≠ 0 ∧ ∃ nm : String, Cond.classLink own z.catchType nm ∈ GW ∧ (exN E, nm) ∈ NCL) (hx : covers x pc = true) (hx0 : x.catchType ≠ 0) (hlink : Cond.classLink own x.catchType (exN E) ∈ GW) (hcast : Cond.castable (exN E) (exN E) ∈ DW) (e : x.handlerPc = pc')
    (k : ∀ q9 : Nat, LQ X Ad nL cn P L pc' [.ref q9]) : TX X Ad nL cn P L pc st E := by
  obtain ⟨p, l, en, R, s, m, args, below, meth, c, Q⟩ := X
  obtain ⟨h1, h2, h3, hown, hts, hN, hlk, rfl⟩ := h0
  obtain ⟨hK0, hw, hstt, hT0, hZ, hC, hAd⟩ := hK
  subst e
  intro H locs ls q9 ce hP hS hl hce hcv hcl
  exact vx_catch hown pre x suf (hE.trans hsplit) (fun z hz => by
    obtain ⟨z0, nm, hz1, hz2⟩ := hpass z hz
    exact Or.inr ⟨z0, nm, hts _ hz1, hC _ hz2⟩) hx hx0 (hts _ hlink) (dw_use hT0.1 _ hcast) hce hcv hcl (k q9 H locs ls hP hS hl)
theorem goodS {idx maxL : Nat} {y : MethodName} {bytes : ByteArray} {ret : Option FieldType} (h1 : Cond.methodLink own idx y ∈ GW) (h2 : Cond.static y ∈ GW) (h3 : Cond.initialized y.cls ∈ GW) (h4 : Cond.codeWith y bytes maxL ret hh ∈ GW) : GoodIn GW (va_wsS own idx y (.codeWith y bytes maxL ret hh :: GW)) := by
  intro w hw
  have hin : w ∈ GW := by
    rcases List.mem_append.mp hw with h | h
    · rcases List.mem_cons.mp h with rfl | h
      · exact h1
      · rcases List.mem_cons.mp h with rfl | h
        · exact h2
        · rcases List.mem_cons.mp h with rfl | h
          · exact h3
          · exact absurd h List.not_mem_nil
    · rcases List.mem_cons.mp h with rfl | h
      · exact h4
      · exact h
  exact ⟨hin, good_of_word (List.mem_filter.mp hin).2⟩
/-- a method of the law, over one object -/
theorem q_call1H {idx maxL n uc : Nat} {y : MethodName} {bytes : ByteArray} {ret : Option FieldType} {rc : Room} (hl : Cond.methodLink own idx y ∈ GW) (hs : Cond.static y ∈ GW) (hini : Cond.initialized y.cls ∈ GW) (hc : Cond.codeWith y bytes maxL ret hh ∈ GW) (hd : plainY y n) (As rest : List Value) (h0 : LX own cc nL rm X) (hK : KW g Ad X) (hF : stab g F) (hM : ct1 y (.codeWith y bytes maxL ret hh) rc uc g As S r S') (hst : st = As.reverse ++ rest) (hn : As.length = n) (hdg : decode cc pc = .ok (.invokestatic idx, 3)) (e : pc + 3 = pc') (hW8 : (rest.map fun v => v.category).sum ≤ 8) (hR : rc.cells = uc ∧ rc.slots = 6 * uc ∧ rc.frames + 1 ≤ rm.frames ∧ 8 + (maxL + 11) + rc.locals ≤ rm.locals) (hcs : cn + uc ≤ rm.cells ∧ 6 * (cn + uc) ≤ rm.slots)
    (kk : LQ X Ad nL (cn + uc) (fun H => hp (wC g) S' H ∧ F H) L pc' (.int r :: rest)) : LQ X Ad nL cn (fun H => hp (wC g) S H ∧ F H) L pc st := by
  obtain ⟨p, l, en, R, s, m, args, below, meth, c, Q⟩ := X
  obtain ⟨hx, hb, hml, hown, hts, hN, hlk, rfl⟩ := h0
  obtain ⟨hK0, hw, hstt, hT0, hZ, hC, hAd⟩ := hK
  subst hst; subst e
  have e6 : 6 * cn + 6 * uc = 6 * (cn + uc) := by omega
  intro H locs ls hP hS hls
  have hsub : ∀ q, AA (wC g) H.size q → Ad q := fun q h => hAd H.size q hS.1 h
  have hpre : ∀ U : State, U.heap = H → s.WarmedH U.vm → P1x g As S H.size As.toArray U := fun U hU hW => ⟨rfl, by rw [hU], by rw [hU]; exact hP.1, va_K.moved hW.alike hK0, hw, nw_warm hW hN, ext_warm hW hT0, by rw [hU]; exact exz_narrow (exz_moved hW.alike (exz_kept hZ hS.2.1)) hsub, nc_moved hW.alike hC⟩
  intro T hT X
  rcases vx_runSX (As := As) (rest := rest) (cells := cn) (slots := 6 * cn) ⟨hx, hb, hml, hown, hts⟩ (hM l H.size hstt) (vx_cwSW n hts (goodS hl hs hini hc) rfl hR.1 hR.2.1 hd ⟨hR.2.2.1, hR.2.2.2⟩) ⟨p1_blind, hpre⟩ (g := F0 m pc ls (As.reverse ++ rest)) rfl hn hls.1 rfl (lv_room hW8) hdg ⟨hcs.1, by omega⟩ T hT X with ⟨v, st₀, t', T', Lo, h0, X', hL, e1, e2, ⟨⟨ht, hv, hb1⟩, hF1⟩, stp⟩ | ⟨q, st₀, t', T', Lo, E, ce, h0, X', hL, e1, e2, hF1, hr⟩
  · cases hv
    obtain ⟨k1', k2', k3'⟩ := vx_keep h0 e1 hS (fun q _ h => hsub q h) (fun q h => hsub q h) hL hF1
    have k4 := kk T'.heap (locs ++ Lo) ls ⟨by rw [e1]; exact hb1, hF H _ hP.2 k2'⟩ k3' hls
    rw [← e6] at k4
    obtain ⟨t2, a1, b1⟩ := k4 T' rfl X'
    exact ⟨t2, stp t2 a1, b1⟩
  · exact hF1.elim
theorem q_call1 {idx maxL n uc : Nat} {y : MethodName} {bytes : ByteArray} {ret : Option FieldType} {rc : Room} (hl : Cond.methodLink own idx y ∈ GW) (hs : Cond.static y ∈ GW) (hini : Cond.initialized y.cls ∈ GW) (hc : Cond.code y bytes maxL ret ∈ GW) (hd : plainY y n) (As rest : List Value) (h0 : LX own cc nL rm X) (hK : KW g Ad X) (hF : stab g F) (hM : ct1 y (.code y bytes maxL ret) rc uc g As S r S') (hst : st = As.reverse ++ rest) (hn : As.length = n) (hdg : decode cc pc = .ok (.invokestatic idx, 3)) (e : pc + 3 = pc') (hW8 : (rest.map fun v => v.category).sum ≤ 8) (hR : rc.cells = uc ∧ rc.slots = 6 * uc ∧ rc.frames + 1 ≤ rm.frames ∧ 8 + (maxL + 11) + rc.locals ≤ rm.locals) (hcs : cn + uc ≤ rm.cells ∧ 6 * (cn + uc) ≤ rm.slots)
    (kk : LQ X Ad nL (cn + uc) (fun H => hp (wC g) S' H ∧ F H) L pc' (.int r :: rest)) : LQ X Ad nL cn (fun H => hp (wC g) S H ∧ F H) L pc st := by
  obtain ⟨p, l, en, R, s, m, args, below, meth, c, Q⟩ := X
  obtain ⟨hx, hb, hml, hown, hts, hN, hlk, rfl⟩ := h0
  obtain ⟨hK0, hw, hstt, hT0, hZ, hC, hAd⟩ := hK
  subst hst; subst e
  have e6 : 6 * cn + 6 * uc = 6 * (cn + uc) := by omega
  intro H locs ls hP hS hls
  have hsub : ∀ q, AA (wC g) H.size q → Ad q := fun q h => hAd H.size q hS.1 h
  have hpre : ∀ U : State, U.heap = H → s.WarmedH U.vm → P1x g As S H.size As.toArray U := fun U hU hW => ⟨rfl, by rw [hU], by rw [hU]; exact hP.1, va_K.moved hW.alike hK0, hw, nw_warm hW hN, ext_warm hW hT0, by rw [hU]; exact exz_narrow (exz_moved hW.alike (exz_kept hZ hS.2.1)) hsub, nc_moved hW.alike hC⟩
  intro T hT X
  rcases vx_runS (As := As) (rest := rest) (cells := cn) (slots := 6 * cn) ⟨hx, hb, hml, hown, hts⟩ (hM l H.size hstt) ⟨callB_of n hts (goodGW hc) rfl hR.1 hR.2.1 (hts _ hini) (hts _ hl) hd ⟨hR.2.2.1, hR.2.2.2⟩, hts _ hs⟩ ⟨p1_blind, hpre⟩ (g := F0 m pc ls (As.reverse ++ rest)) rfl hn hls.1 rfl (lv_room hW8) hdg ⟨hcs.1, by omega⟩ T hT X with ⟨v, st₀, t', T', Lo, h0, X', hL, e1, e2, ⟨⟨ht, hv, hb1⟩, hF1⟩, stp⟩ | ⟨q, st₀, t', T', Lo, E, ce, h0, X', hL, e1, e2, hF1, hr⟩
  · cases hv
    obtain ⟨k1', k2', k3'⟩ := vx_keep h0 e1 hS (fun q _ h => hsub q h) (fun q h => hsub q h) hL hF1
    have k4 := kk T'.heap (locs ++ Lo) ls ⟨by rw [e1]; exact hb1, hF H _ hP.2 k2'⟩ k3' hls
    rw [← e6] at k4
    obtain ⟨t2, a1, b1⟩ := k4 T' rfl X'
    exact ⟨t2, stp t2 a1, b1⟩
  · exact hF1.elim
/-- a method of the law, over two objects -/
theorem q_call2 {idx maxL n uc : Nat} {y : MethodName} {bytes : ByteArray} {ret : Option FieldType} {rc : Room} (hl : Cond.methodLink own idx y ∈ GW) (hs : Cond.static y ∈ GW) (hini : Cond.initialized y.cls ∈ GW) (hc : Cond.code y bytes maxL ret ∈ GW) (hd : plainY y n) (As rest : List Value) (h0 : LX own cc nL rm X) (hK : KW g Ad X) (hK2 : KW g2 Ad X) (hap : aptC g g2) (hM : ct2 y (.code y bytes maxL ret) rc uc g g2 As S S2 r S' S2') (hst : st = As.reverse ++ rest) (hn : As.length = n) (hdg : decode cc pc = .ok (.invokestatic idx, 3)) (e : pc + 3 = pc') (hW8 : (rest.map fun v => v.category).sum ≤ 8) (hR : rc.cells = uc ∧ rc.slots = 6 * uc ∧ rc.frames + 1 ≤ rm.frames ∧ 8 + (maxL + 11) + rc.locals ≤ rm.locals) (hcs : cn + uc ≤ rm.cells ∧ 6 * (cn + uc) ≤ rm.slots)
    (kk : LQ X Ad nL (cn + uc) (pW2 g g2 S' S2') L pc' (.int r :: rest)) : LQ X Ad nL cn (pW2 g g2 S S2) L pc st := by
  obtain ⟨p, l, en, R, s, m, args, below, meth, c, Q⟩ := X
  obtain ⟨hx, hb, hml, hown, hts, hN, hlk, rfl⟩ := h0
  obtain ⟨hK0, hw, hstt, hT0, hZ, hC, hAd⟩ := hK
  obtain ⟨hK02, hw2, -, -, -, -, hAd2⟩ := hK2
  subst hst; subst e
  have e6 : 6 * cn + 6 * uc = 6 * (cn + uc) := by omega
  intro H locs ls hP hS hls
  have hsub : ∀ q, A2 g g2 H.size q → Ad q := fun q h => h.elim (fun h => hAd H.size q hS.1 h) (fun h => hAd2 H.size q hS.1 h)
  have hpre : ∀ U : State, U.heap = H → s.WarmedH U.vm → P2x g g2 As S S2 H.size As.toArray U := fun U hU hW => ⟨rfl, by rw [hU], by rw [hU]; exact hP, ⟨va_K.moved hW.alike hK0, va_K.moved hW.alike hK02⟩, ⟨hw, hw2, hap⟩, nw_warm hW hN, ext_warm hW hT0, by rw [hU]; exact exz_narrow (exz_moved hW.alike (exz_kept hZ hS.2.1)) hsub, nc_moved hW.alike hC⟩
  intro T hT X
  rcases vx_runS (As := As) (rest := rest) (cells := cn) (slots := 6 * cn) ⟨hx, hb, hml, hown, hts⟩ (hM l H.size hstt) ⟨callB_of n hts (goodGW hc) rfl hR.1 hR.2.1 (hts _ hini) (hts _ hl) hd ⟨hR.2.2.1, hR.2.2.2⟩, hts _ hs⟩ ⟨p2_blind, hpre⟩ (g := F0 m pc ls (As.reverse ++ rest)) rfl hn hls.1 rfl (lv_room hW8) hdg ⟨hcs.1, by omega⟩ T hT X with ⟨v, st₀, t', T', Lo, h0, X', hL, e1, e2, ⟨⟨ht, hv, hb1⟩, hF1⟩, stp⟩ | ⟨q, st₀, t', T', Lo, E, ce, h0, X', hL, e1, e2, hF1, hr⟩
  · cases hv
    obtain ⟨k1', k2', k3'⟩ := vx_keep h0 e1 hS (fun q _ h => hsub q h) (fun q h => hsub q h) hL hF1
    have k4 := kk T'.heap (locs ++ Lo) ls (by rw [e1]; exact hb1) k3' hls
    rw [← e6] at k4
    obtain ⟨t2, a1, b1⟩ := k4 T' rfl X'
    exact ⟨t2, stp t2 a1, b1⟩
  · exact hF1.elim
end QX
/-- what is said of the one object, said of the other -/
theorem q_swap {X : MX} {Ad : Nat → Prop} {nL cn pc : Nat} {L : List (Nat × Value)} {st : List Value} {A B : Heap → Prop} (k : LQ X Ad nL cn (fun H => B H ∧ A H) L pc st) : LQ X Ad nL cn (fun H => A H ∧ B H) L pc st := l_imp (fun _ h => h.symm) k
def b3 {α β : Type} (a : Option (α × Mem × Mem)) (K : α → Mem → Mem → Option β) : Option β := match a with
  | some r => K r.1 r.2.1 r.2.2
  | none => none
theorem b3_some {α β : Type} {a : Option (α × Mem × Mem)} {K : α → Mem → Mem → Option β} {y : β} (h : b3 a K = some y) : ∃ r S S2, a = some (r, S, S2) ∧ K r S S2 = some y := by
  cases a with
  | none => cases h
  | some r => exact ⟨r.1, r.2.1, r.2.2, rfl, h⟩
theorem b3s {α β : Type} {a : α} {S S2 : Mem} {K : α → Mem → Mem → Option β} : b3 (some (a, S, S2)) K = K a S S2 := rfl
/-- what was thrown, or what was answered -/
def bz {α β : Type} (z : Nat ⊕ α) (T : Nat → Option β) (K : α → Option β) : Option β := match z with
  | .inl e => T e
  | .inr r => K r
