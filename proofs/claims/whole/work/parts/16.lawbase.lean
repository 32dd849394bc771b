/-! The law's own judgement: the heap holds P; rows; wrappers; calls from the law. -/
def LV (X : MX) (A : Nat → Prop) (nL cn sn : Nat) (P : Heap → Prop) (L : List (Nat × Value)) (pc : Nat) (st : List Value) : Prop := match X with
  | (p, l, e, R, s, m, args, below, meth, c, Q) => ∀ (H : Heap) (locs : List Loc) (ls : Array Slot), P H → va_S A s.heap H locs → lv_has ls nL L → W p l e R s m args below meth c H locs cn sn Q (F0 m pc ls st)
def LX (own : String) (cc : ByteArray) (nL : Nat) (rm : Room) (X : MX) : Prop := match X with
  | (p, _, _, R, s, m, args, _, meth, c, _) => p.tables.exec = Jvm.exec ∧ c.code = cc ∧ c.maxLocals = nL ∧ s.vm.findClass own = some m.cls ∧ (∀ t ∈ GW, t.before args s = true) ∧ (∀ t ∈ NW, va_Nw t s) ∧ meth.locks = false ∧ R = rm
section LW
variable {own : String} {cc : ByteArray} {nL : Nat} {rm : Room} {X : MX} {A : Nat → Prop} {cn sn : Nat} {P : Heap → Prop} {L L' : List (Nat × Value)} {pc pc' : Nat} {st : List Value}
theorem l_iconst (h0 : LX own cc nL rm X) {n : Int} {v : Int32} (hdg : decode cc pc = .ok (.iconst n, 1)) (hv : Int32.ofInt n = v) (e : pc + 1 = pc') (k : LV X A nL cn sn P L pc' (.int v :: st)) : LV X A nL cn sn P L pc st := by
  obtain ⟨p, l, en, R, s, m, args, below, meth, c, Q⟩ := X
  obtain ⟨hx, hb, -⟩ := h0
  subst e
  intro H locs ls hP hS hl
  exact lv_iconst hx hb hdg hv (k H locs ls hP hS hl)
theorem l_bipush (h0 : LX own cc nL rm X) {n : Int} {v : Int32} (hdg : decode cc pc = .ok (.bipush n, 2)) (hv : (Int8.ofInt n).toInt32 = v) (e : pc + 2 = pc') (k : LV X A nL cn sn P L pc' (.int v :: st)) : LV X A nL cn sn P L pc st := by
  obtain ⟨p, l, en, R, s, m, args, below, meth, c, Q⟩ := X
  obtain ⟨hx, hb, -⟩ := h0
  subst e
  intro H locs ls hP hS hl
  exact lv_bipush hx hb hdg hv (k H locs ls hP hS hl)
theorem l_lconst (h0 : LX own cc nL rm X) {n : Fin 2} {v : Int64} (hdg : decode cc pc = .ok (.lconst n, 1)) (hv : Int64.ofNat (n : Nat) = v) (e : pc + 1 = pc') (k : LV X A nL cn sn P L pc' (.long v :: st)) : LV X A nL cn sn P L pc st := by
  obtain ⟨p, l, en, R, s, m, args, below, meth, c, Q⟩ := X
  obtain ⟨hx, hb, -⟩ := h0
  subst e
  intro H locs ls hP hS hl
  exact lv_lconst hx hb hdg hv (k H locs ls hP hS hl)
theorem l_iload_n (h0 : LX own cc nL rm X) (q : Nat) {n : Fin 4} {i : Nat} {x : Int32} (hdg : decode cc pc = .ok (.iload_n n, 1)) (hi : (n : Nat) = i) (hq : L[q]? = some (i, .int x)) (e : pc + 1 = pc') (k : LV X A nL cn sn P L pc' (.int x :: st)) : LV X A nL cn sn P L pc st := by
  obtain ⟨p, l, en, R, s, m, args, below, meth, c, Q⟩ := X
  obtain ⟨hx, hb, -⟩ := h0
  subst e
  intro H locs ls hP hS hl
  exact lv_iload_n hx hb hdg hi (lv_at hl q hq) (k H locs ls hP hS hl)
theorem l_iload (h0 : LX own cc nL rm X) (q : Nat) {i : Nat} {x : Int32} (hdg : decode cc pc = .ok (.iload i, 2)) (hq : L[q]? = some (i, .int x)) (e : pc + 2 = pc') (k : LV X A nL cn sn P L pc' (.int x :: st)) : LV X A nL cn sn P L pc st := by
  obtain ⟨p, l, en, R, s, m, args, below, meth, c, Q⟩ := X
  obtain ⟨hx, hb, -⟩ := h0
  subst e
  intro H locs ls hP hS hl
  exact lv_iload hx hb hdg (lv_at hl q hq) (k H locs ls hP hS hl)
theorem l_aload_n (h0 : LX own cc nL rm X) (q : Nat) {n : Fin 4} {i x : Nat} (hdg : decode cc pc = .ok (.aload_n n, 1)) (hi : (n : Nat) = i) (hq : L[q]? = some (i, .ref x)) (e : pc + 1 = pc') (k : LV X A nL cn sn P L pc' (.ref x :: st)) : LV X A nL cn sn P L pc st := by
  obtain ⟨p, l, en, R, s, m, args, below, meth, c, Q⟩ := X
  obtain ⟨hx, hb, -⟩ := h0
  subst e
  intro H locs ls hP hS hl
  exact lv_aload_n hx hb hdg hi (lv_at hl q hq) (k H locs ls hP hS hl)
theorem l_aload (h0 : LX own cc nL rm X) (q : Nat) {i x : Nat} (hdg : decode cc pc = .ok (.aload i, 2)) (hq : L[q]? = some (i, .ref x)) (e : pc + 2 = pc') (k : LV X A nL cn sn P L pc' (.ref x :: st)) : LV X A nL cn sn P L pc st := by
  obtain ⟨p, l, en, R, s, m, args, below, meth, c, Q⟩ := X
  obtain ⟨hx, hb, -⟩ := h0
  subst e
  intro H locs ls hP hS hl
  exact lv_aload hx hb hdg (lv_at hl q hq) (k H locs ls hP hS hl)
theorem l_sub (ks : List Nat) (hl : lv_pick L ks = L') (k : LV X A nL cn sn P L' pc st) : LV X A nL cn sn P L pc st := by
  obtain ⟨p, l, en, R, s, m, args, below, meth, c, Q⟩ := X
  intro H locs ls hP hS hl0
  exact k H locs ls hP hS (lv_sub hl0 ks hl)
theorem l_istore_n (h0 : LX own cc nL rm X) {n : Fin 4} {i : Nat} {x : Int32} (hdg : decode cc pc = .ok (.istore_n n, 1)) (hi : (n : Nat) = i) (hn : i < nL) (hl : (i, Value.int x) :: L.filter (fun q => !(q.1 == i) && !(q.1 + 1 == i && q.2.category == 2)) = L') (e : pc + 1 = pc') (k : LV X A nL cn sn P L' pc' st) : LV X A nL cn sn P L pc (.int x :: st) := by
  obtain ⟨p, l, en, R, s, m, args, below, meth, c, Q⟩ := X
  obtain ⟨hx, hb, -⟩ := h0
  subst e
  intro H locs ls hP hS hl0
  exact lv_istore_n hx hb hdg hi hl0 hn hl (fun ls' hl' => k H locs ls' hP hS hl')
theorem l_istore (h0 : LX own cc nL rm X) {i : Nat} {x : Int32} (hdg : decode cc pc = .ok (.istore i, 2)) (hn : i < nL) (hl : (i, Value.int x) :: L.filter (fun q => !(q.1 == i) && !(q.1 + 1 == i && q.2.category == 2)) = L') (e : pc + 2 = pc') (k : LV X A nL cn sn P L' pc' st) : LV X A nL cn sn P L pc (.int x :: st) := by
  obtain ⟨p, l, en, R, s, m, args, below, meth, c, Q⟩ := X
  obtain ⟨hx, hb, -⟩ := h0
  subst e
  intro H locs ls hP hS hl0
  exact lv_istore hx hb hdg hl0 hn hl (fun ls' hl' => k H locs ls' hP hS hl')
theorem l_astore_n (h0 : LX own cc nL rm X) {n : Fin 4} {i x : Nat} (hdg : decode cc pc = .ok (.astore_n n, 1)) (hi : (n : Nat) = i) (hn : i < nL) (hl : (i, Value.ref x) :: L.filter (fun q => !(q.1 == i) && !(q.1 + 1 == i && q.2.category == 2)) = L') (e : pc + 1 = pc') (k : LV X A nL cn sn P L' pc' st) : LV X A nL cn sn P L pc (.ref x :: st) := by
  obtain ⟨p, l, en, R, s, m, args, below, meth, c, Q⟩ := X
  obtain ⟨hx, hb, -⟩ := h0
  subst e
  intro H locs ls hP hS hl0
  exact lv_astore_n hx hb hdg hi hl0 hn hl (fun ls' hl' => k H locs ls' hP hS hl')
theorem l_astore (h0 : LX own cc nL rm X) {i x : Nat} (hdg : decode cc pc = .ok (.astore i, 2)) (hn : i < nL) (hl : (i, Value.ref x) :: L.filter (fun q => !(q.1 == i) && !(q.1 + 1 == i && q.2.category == 2)) = L') (e : pc + 2 = pc') (k : LV X A nL cn sn P L' pc' st) : LV X A nL cn sn P L pc (.ref x :: st) := by
  obtain ⟨p, l, en, R, s, m, args, below, meth, c, Q⟩ := X
  obtain ⟨hx, hb, -⟩ := h0
  subst e
  intro H locs ls hP hS hl0
  exact lv_astore hx hb hdg hl0 hn hl (fun ls' hl' => k H locs ls' hP hS hl')
theorem l_iinc (h0 : LX own cc nL rm X) (q : Nat) {i : Nat} {n : Int} {x v : Int32} (hdg : decode cc pc = .ok (.iinc i n, 3)) (hq : L[q]? = some (i, .int x)) (hv : Int32.ofInt n = v) (hn : i < nL) (hl : (i, Value.int (x + v)) :: L.filter (fun q => !(q.1 == i) && !(q.1 + 1 == i && q.2.category == 2)) = L') (e : pc + 3 = pc') (k : LV X A nL cn sn P L' pc' st) : LV X A nL cn sn P L pc st := by
  obtain ⟨p, l, en, R, s, m, args, below, meth, c, Q⟩ := X
  obtain ⟨hx, hb, -⟩ := h0
  subst e
  subst hv
  intro H locs ls hP hS hl0
  exact lv_iinc hx hb hdg hl0 hq rfl hn hl (fun ls' hl' => k H locs ls' hP hS hl')
theorem l_iadd (h0 : LX own cc nL rm X) {x y : Int32} (hdg : decode cc pc = .ok (.iadd, 1)) (e : pc + 1 = pc') (k : LV X A nL cn sn P L pc' (.int (x + y) :: st)) : LV X A nL cn sn P L pc (.int y :: .int x :: st) := by
  obtain ⟨p, l, en, R, s, m, args, below, meth, c, Q⟩ := X
  obtain ⟨hx, hb, -⟩ := h0
  subst e
  intro H locs ls hP hS hl
  exact lv_iadd hx hb hdg (k H locs ls hP hS hl)
theorem l_isub (h0 : LX own cc nL rm X) {x y : Int32} (hdg : decode cc pc = .ok (.isub, 1)) (e : pc + 1 = pc') (k : LV X A nL cn sn P L pc' (.int (x - y) :: st)) : LV X A nL cn sn P L pc (.int y :: .int x :: st) := by
  obtain ⟨p, l, en, R, s, m, args, below, meth, c, Q⟩ := X
  obtain ⟨hx, hb, -⟩ := h0
  subst e
  intro H locs ls hP hS hl
  exact lv_isub hx hb hdg (k H locs ls hP hS hl)
theorem l_iand (h0 : LX own cc nL rm X) {x y : Int32} (hdg : decode cc pc = .ok (.iand, 1)) (e : pc + 1 = pc') (k : LV X A nL cn sn P L pc' (.int (x &&& y) :: st)) : LV X A nL cn sn P L pc (.int y :: .int x :: st) := by
  obtain ⟨p, l, en, R, s, m, args, below, meth, c, Q⟩ := X
  obtain ⟨hx, hb, -⟩ := h0
  subst e
  intro H locs ls hP hS hl
  exact lv_iand hx hb hdg (k H locs ls hP hS hl)
theorem l_i2l (h0 : LX own cc nL rm X) {x : Int32} (hdg : decode cc pc = .ok (.i2l, 1)) (e : pc + 1 = pc') (k : LV X A nL cn sn P L pc' (.long x.toInt64 :: st)) : LV X A nL cn sn P L pc (.int x :: st) := by
  obtain ⟨p, l, en, R, s, m, args, below, meth, c, Q⟩ := X
  obtain ⟨hx, hb, -⟩ := h0
  subst e
  intro H locs ls hP hS hl
  exact lv_i2l hx hb hdg rfl (k H locs ls hP hS hl)
theorem l_lcmp (h0 : LX own cc nL rm X) {x y : Int64} (hdg : decode cc pc = .ok (.lcmp, 1)) (e : pc + 1 = pc') (k : LV X A nL cn sn P L pc' (.int (lg_cmp x y) :: st)) : LV X A nL cn sn P L pc (.long y :: .long x :: st) := by
  obtain ⟨p, l, en, R, s, m, args, below, meth, c, Q⟩ := X
  obtain ⟨hx, hb, -⟩ := h0
  subst e
  intro H locs ls hP hS hl
  exact W.lcmp hx hb hdg (k H locs ls hP hS hl)
theorem l_goto (h0 : LX own cc nL rm X) {off : Int} (hdg : decode cc pc = .ok (.goto off, 3)) (e : (pc : Int) + off = (pc' : Int)) (k : LV X A nL cn sn P L pc' st) : LV X A nL cn sn P L pc st := by
  obtain ⟨p, l, en, R, s, m, args, below, meth, c, Q⟩ := X
  obtain ⟨hx, hb, -⟩ := h0
  intro H locs ls hP hS hl
  exact lv_goto hx hb hdg e (k H locs ls hP hS hl)
theorem l_dup (h0 : LX own cc nL rm X) {va : Value} (hdg : decode cc pc = .ok (.dup, 1)) (hc : va.category = 1) (e : pc + 1 = pc') (k : LV X A nL cn sn P L pc' (va :: va :: st)) : LV X A nL cn sn P L pc (va :: st) := by
  obtain ⟨p, l, en, R, s, m, args, below, meth, c, Q⟩ := X
  obtain ⟨hx, hb, -⟩ := h0
  subst e
  intro H locs ls hP hS hl
  exact lv_dup hx hb hdg hc (k H locs ls hP hS hl)
theorem l_if_eq (h0 : LX own cc nL rm X) {x : Int32} {off : Int} {pt pf : Nat} (hdg : decode cc pc = .ok (.ifCond .eq off, 3)) (et : (pc : Int) + off = (pt : Int)) (ef : pc + 3 = pf) (kt : x = 0 → LV X A nL cn sn P L pt st) (kf : ¬ x = 0 → LV X A nL cn sn P L pf st) : LV X A nL cn sn P L pc (.int x :: st) := by
  obtain ⟨p, l, en, R, s, m, args, below, meth, c, Q⟩ := X
  obtain ⟨hx, hb, -⟩ := h0
  subst ef
  intro H locs ls hP hS hl
  exact lv_if_eq hx hb hdg et (fun c => kt c H locs ls hP hS hl) (fun c => kf c H locs ls hP hS hl)
theorem l_if_ne (h0 : LX own cc nL rm X) {x : Int32} {off : Int} {pt pf : Nat} (hdg : decode cc pc = .ok (.ifCond .ne off, 3)) (et : (pc : Int) + off = (pt : Int)) (ef : pc + 3 = pf) (kt : ¬ x = 0 → LV X A nL cn sn P L pt st) (kf : x = 0 → LV X A nL cn sn P L pf st) : LV X A nL cn sn P L pc (.int x :: st) := by
  obtain ⟨p, l, en, R, s, m, args, below, meth, c, Q⟩ := X
  obtain ⟨hx, hb, -⟩ := h0
  subst ef
  intro H locs ls hP hS hl
  exact lv_if_ne hx hb hdg et (fun c => kt c H locs ls hP hS hl) (fun c => kf c H locs ls hP hS hl)
/-- the two are one: the branch is taken -/
theorem l_ic_eq (h0 : LX own cc nL rm X) {x y : Int32} {off : Int} {pt : Nat} (hdg : decode cc pc = .ok (.if_icmp .eq off, 3)) (et : (pc : Int) + off = (pt : Int)) (hxy : x = y) (k : LV X A nL cn sn P L pt st) : LV X A nL cn sn P L pc (.int y :: .int x :: st) := by
  obtain ⟨p, l, en, R, s, m, args, below, meth, c, Q⟩ := X
  obtain ⟨hx, hb, -⟩ := h0
  intro H locs ls hP hS hl
  exact lv_icmp_eq hx hb hdg et (fun _ => k H locs ls hP hS hl) (fun c => absurd hxy c)
theorem l_ic_gt (h0 : LX own cc nL rm X) {x y : Int32} {off : Int} {pt pf : Nat} (hdg : decode cc pc = .ok (.if_icmp .gt off, 3)) (et : (pc : Int) + off = (pt : Int)) (ef : pc + 3 = pf) (kt : y < x → LV X A nL cn sn P L pt st) (kf : ¬ y < x → LV X A nL cn sn P L pf st) : LV X A nL cn sn P L pc (.int y :: .int x :: st) := by
  obtain ⟨p, l, en, R, s, m, args, below, meth, c, Q⟩ := X
  obtain ⟨hx, hb, -⟩ := h0
  subst ef
  intro H locs ls hP hS hl
  exact lv_icmp_gt hx hb hdg et (fun c => kt c H locs ls hP hS hl) (fun c => kf c H locs ls hP hS hl)
theorem l_widen {cn' sn' : Nat} (h1 : cn ≤ cn') (h2 : sn ≤ sn') (k : LV X A nL cn' sn' P L pc st) : LV X A nL cn sn P L pc st := by
  obtain ⟨p, l, en, R, s, m, args, below, meth, c, Q⟩ := X
  intro H locs ls hP hS hl
  exact W.widen h1 h2 (k H locs ls hP hS hl)
theorem l_imp {P' : Heap → Prop} (h : ∀ H, P H → P' H) (k : LV X A nL cn sn P' L pc st) : LV X A nL cn sn P L pc st := by
  obtain ⟨p, l, en, R, s, m, args, below, meth, c, Q⟩ := X
  intro H locs ls hP hS hl
  exact k H locs ls (h H hP) hS hl
end LW
/-- the law's array of one long -/
def outC (cJ : ClassId) (qo : Nat) (o : Nat → Int64) (H : Heap) : Prop := H[qo]? = some (vp_cell cJ (1, .inr (.inl o)))
/-- the world of a wrapper: the class's, and that array -/
def hW (g : GC) (cJ : ClassId) (qo : Nat) (S : Mem) (o : Nat → Int64) (H : Heap) : Prop := hp (wC g) S H ∧ outC cJ qo o H
def AW (g : GC) (qo sz : Nat) : Nat → Prop := fun q => AA (wC g) sz q ∨ q = qo
/-- the world of the law: the class's, the model's, and that array -/
def hL (g : GC) (g' : GR) (cJ : ClassId) (qo : Nat) (S S' : Mem) (o : Nat → Int64) (H : Heap) : Prop := hp (wC g) S H ∧ hp (wR g') S' H ∧ outC cJ qo o H
def NCL : List (String × String) := [("java/lang/IndexOutOfBoundsException", "java/lang/IllegalArgumentException"), ("java/lang/IllegalStateException", "java/lang/IllegalArgumentException"), ("java/lang/IllegalArgumentException", "java/lang/IndexOutOfBoundsException"), ("java/lang/IllegalStateException", "java/lang/IndexOutOfBoundsException"), ("java/lang/IndexOutOfBoundsException", "java/lang/IllegalStateException"), ("java/lang/IllegalArgumentException", "java/lang/IllegalStateException")]
def NCs (U : State) : Prop := ∀ q ∈ NCL, va_Nc q.1 q.2 U
theorem nc_moved {s U : State} (hvm : s.vm.Alike U.vm) (h : NCs s) : NCs U := fun q hq => va_Nc.moved hvm (h q hq)
theorem AW_up {g : GC} {qo a b : Nat} (h : a ≤ b) : ∀ q, AW g qo b q → AW g qo a q := fun q hq => hq.imp (AA_up h q) id
theorem out_kept {cJ : ClassId} {qo : Nat} {o : Nat → Int64} {H H1 : Heap} (h : outC cJ qo o H) (hq : H1[qo]? = H[qo]?) : outC cJ qo o H1 := hq.trans h
theorem out_lt {cJ : ClassId} {qo : Nat} {o : Nat → Int64} {H : Heap} (h : outC cJ qo o H) : qo < H.size := (Array.getElem?_eq_some_iff.mp h).1
theorem hp_frame {w : WX} {S : Mem} {B : Nat → Prop} {H H1 : Heap} (h : hp w S H) (hq : ∀ q : Nat, q < H.size → ¬ B q → H1[q]? = H[q]?) (hB : ∀ c k : Nat, k < wN w c → wA w c k < H.size → ¬ B (wA w c k)) : hp w S H1 := fun c k hk => (h c k hk).kept (hq _ (h c k hk).lt (hB c k hk (h c k hk).lt))
/-- nothing of the one is of the other -/
def aptR (g : GC) (g' : GR) : Prop := ∀ c k c' k' : Nat, k < wN (wC g) c → k' < wN (wR g') c' → wA (wC g) c k ≠ wA (wR g') c' k'
def aptO (w : WX) (qo : Nat) : Prop := ∀ c k : Nat, k < wN w c → wA w c k ≠ qo
def KW (g : GC) (cJ : ClassId) (qo : Nat) (X : MX) : Prop := match X with
  | (_, l, _, _, s, _, _, _, _, _, _) => va_K (wD (wC g)) (wCl (wC g)) (wTy (wC g)) s ∧ ArrOfT s cJ .long ∧ wok (wC g) ∧ aptO (wC g) qo ∧ l.stackTraces = false ∧ EXT s ∧ EXZ (AW g qo s.heap.size) s s.heap ∧ NCs s
def PWx (g : GC) (cJ : ClassId) (qo : Nat) (av : List Value) (S : Mem) (o : Nat → Int64) (sz : Nat) : Array Value → State → Prop := va_Pc av (fun U => U.heap.size = sz ∧ hW g cJ qo S o U.heap ∧ va_K (wD (wC g)) (wCl (wC g)) (wTy (wC g)) U ∧ ArrOfT U cJ .long ∧ wok (wC g) ∧ aptO (wC g) qo ∧ (∀ t ∈ NW, va_Nw t U) ∧ EXT U ∧ EXZ (AW g qo sz) U U.heap ∧ NCs U)
theorem pw_blind {g : GC} {cJ : ClassId} {qo : Nat} {av : List Value} {S : Mem} {o : Nat → Int64} {sz : Nat} : FrameBlind (PWx g cJ qo av S o sz) := by
  intro a U f mk h
  obtain ⟨h1, h2, h3, h4, h5, h6, h7, h8, h9, h10, h11⟩ := h
  exact ⟨h1, h2, h3, va_K.moved (u := U) (U := U.calling f mk a) (Vm.Alike.refl U.vm) h4, h5, h6, h7, nw_calling h8, ext_same (s := U) (U := U.calling f mk a) rfl h9, exz_moved (s := U) (U := U.calling f mk a) (Vm.Alike.refl U.vm) h10, nc_moved (s := U) (U := U.calling f mk a) (Vm.Alike.refl U.vm) h11⟩
/-- THE CONTRACT of a wrapper: it answers r, and throws nothing -/
def ctW (y : MethodName) (cc : ByteArray) (nL : Nat) (hh : List (Nat × Nat × Nat × Nat)) (rm : Room) (mc ms : Nat) (g : GC) (cJ : ClassId) (qo : Nat) (av : List Value) (S : Mem) (o : Nat → Int64) (r : Int32) (S' : Mem) (o' : Nat → Int64) : Prop :=
  ∀ (l : Launch) (sz : Nat), l.stackTraces = false → vx_Met l y (.codeWith y cc nL (some .int) hh :: GW) rm (PWx g cJ qo av S o sz) (Qx none (some (.int r)) (hW g cJ qo S' o') (AW g qo sz)) (fun _ _ _ => False) mc ms (AW g qo sz)
def EW (r : Int32) (g : GC) (cJ : ClassId) (qo : Nat) (S' : Mem) (o' : Nat → Int64) (mc ms : Nat) (hh : List (Nat × Nat × Nat × Nat)) (X : MX) : Prop := match X with
  | (_, _, _, _, s, _, args, below, meth, c, Q) => meth.sig.returnType = some .int ∧ Q = vx_MQ below (Qx none (some (.int r)) (hW g cJ qo S' o') (AW g qo s.heap.size)) (fun _ _ _ => False) args s mc ms (AW g qo s.heap.size) ∧ c.exceptionTable.toList = tableOf hh
theorem ctw_of {own : String} {y : MethodName} {cc : ByteArray} {nL mc ms : Nat} {hh : List (Nat × Nat × Nat × Nat)} {rm : Room} {g : GC} {cJ : ClassId} {qo : Nat} {av : List Value} {S S' : Mem} {o o' : Nat → Int64} {r : Int32} {L : List (Nat × Value)} (hy : plainName y.cls = true) (hyo : y.cls = own) (hn : (lg_sl av).length ≤ nL) (hL : lv_args 0 av = L)
    (body : ∀ (X : MX) (A : Nat → Prop), LX own cc nL rm X → KW g cJ qo X → EW r g cJ qo S' o' mc ms hh X → A = AW g qo X.2.2.2.2.1.heap.size → LV X A nL 0 0 (hW g cJ qo S o) L 0 []) : ctW y cc nL hh rm mc ms g cJ qo av S o r S' o' := by
  intro l sz hl
  refine vx_ofWH (cc := cc) (maxL := nL) (ret := some .int) (hh := hh) hy rfl ?_
  intro p e s m args below meth c s₁ B hml hv
  obtain ⟨rfl, rfl, hP, hK, hJ, hw, ha, hN, hT, hZ, hC⟩ := hv
  have hown : s.vm.findClass own = some m.cls := by
    rw [← hyo]
    exact findClass_of_methodNamed B.named
  have hall := atoms_spec (ws := .codeWith y cc nL (some .int) hh :: GW) B.pre
  have hts : ∀ t ∈ GW, t.before av.toArray s = true := fun t ht => hall t (List.mem_cons_of_mem _ ht)
  have htab : c.exceptionTable.toList = tableOf hh := vx_table (x := y) B (hall _ List.mem_cons_self)
  have hb := body (p, l, e, rm, s, m, av.toArray, below, meth, c, vx_MQ below (Qx none (some (.int r)) (hW g cJ qo S' o') (AW g qo s.heap.size)) (fun _ _ _ => False) av.toArray s mc ms (AW g qo s.heap.size)) _ ⟨B.exec, B.bytes, hml, hown, hts, hN, B.notSynchronized, rfl⟩ ⟨hK, hJ, hw, ha, hl, hT, hZ, hC⟩ ⟨B.returns, rfl, htab⟩ rfl
  have hl := lv_entry av (n := nL) hn
  rw [lg_entry_eq]
  rw [hL] at hl
  exact hb s.heap [] _ hP va_S.rf hl
section LWR
variable {own : String} {cc : ByteArray} {nL : Nat} {rm : Room} {X : MX} {A : Nat → Prop} {cn sn mc ms : Nat} {L : List (Nat × Value)} {pc pc' : Nat} {st : List Value} {g : GC} {cJ : ClassId} {qo : Nat} {S S' S2 : Mem} {o o' : Nat → Int64} {r : Int32} {hh : List (Nat × Nat × Nat × Nat)}
theorem w_iret (h0 : LX own cc nL rm X) (hE : EW r g cJ qo S' o' mc ms hh X) (hA : A = AW g qo X.2.2.2.2.1.heap.size) {x : Int32} (hdg : decode cc pc = .ok (.ireturn, 1)) (hc : cn ≤ mc ∧ sn ≤ ms) (hr : x = r) (hS : S = S') (ho : o = o') : LV X A nL cn sn (hW g cJ qo S o) L pc [.int x] := by
  obtain ⟨p, l, en, R, s, m, args, below, meth, c, Q⟩ := X
  obtain ⟨hx, hb, -, -, -, -, hlk, -⟩ := h0
  obtain ⟨h1, h2, -⟩ := hE
  subst h2; subst hr; subst hS; subst ho; subst hA
  intro H locs ls hP hS hl
  exact W.widen hc.1 hc.2 (vx_ret (W.iret hx hb h1 (fun t ht hW => ⟨⟨rfl, rfl, by rw [ht]; exact hP⟩, hS.F ht⟩) hS.2.2 hdg hlk))
theorem w_last (h0 : LX own cc nL rm X) (hK : KW g cJ qo X) (hA : A = AW g qo X.2.2.2.2.1.heap.size) {x : Int64} (hdg : decode cc pc = .ok (.lastore, 1)) (e : pc + 1 = pc') (k : LV X A nL cn sn (hW g cJ qo S (vp_updL o 0 x)) L pc' st) : LV X A nL cn sn (hW g cJ qo S o) L pc (.long x :: .int 0 :: .ref qo :: st) := by
  obtain ⟨p, l, en, R, s, m, args, below, meth, c, Q⟩ := X
  obtain ⟨hx, hb, -, -, -, -, hlk, -⟩ := h0
  obtain ⟨hK0, hJ, hw, ha, -⟩ := hK
  subst e; subst hA
  intro H locs ls hP hS hl
  refine W.last hx hb hP.2 (hJ 1 (fun j => .long (o j))) (fun q => by cases q) (by show ¬ ((0 : Int32) < 0 ∨ (arrV _ _ _).slots.size ≤ _); rw [arrV_size]; show ¬ ((0 : Int32) < 0 ∨ 1 ≤ (0 : Int32).toNatClampNeg); decide) rfl rfl hdg fun H1 e z oq => ?_
  refine k H1 _ ls ⟨fun c k hk => (hP.1 c k hk).kept (oq _ (ha c k hk)), ?_⟩ (hS.put z oq (Or.inr rfl)) hl
  show H1[_]? = some (vp_cell _ _)
  rw [e]
  rw [vp_cell_l, vp_cell_l, arrV_store]
  congr 2
  funext q
  by_cases hq : q = 0
  · subst hq; rfl
  · show (if q = 0 then Value.long x else Value.long (o q)) = Value.long (if q = 0 then x else o q)
    rw [if_neg hq, if_neg hq]
/-- the class's call out of a wrapper -/
theorem w_call {idx maxL n uc us : Nat} {y : MethodName} {bytes : ByteArray} {ret : Option FieldType} {rc : Room} {α : Type} {z : Nat ⊕ α} {ov : α → Option Value} (hlk1 : Cond.methodLink own idx y ∈ GW) (hi : Cond.instanceMethod y ∈ GW) (hs : Cond.selects RX7 y y ∈ GW) (hc : Cond.code y bytes maxL ret ∈ GW) (hini : Cond.initialized y.cls ∈ GW) (hd : plainY y n)
    (As rest : List Value) (h0 : LX own cc nL rm X) (hK : KW g cJ qo X) (hA : A = AW g qo X.2.2.2.2.1.heap.size) (hM : ctX y bytes maxL ret rc uc us (wC g) (.ref (wA (wC g) 7 0) :: As) S (tOf z) (oOf ov z) S2) (hst : st = As.reverse ++ .ref (wA (wC g) 7 0) :: rest) (hn : As.length = n) (hdg : decode cc pc = .ok (.invokevirtual idx, 3)) (hW8 : (rest.map fun v => v.category).sum ≤ 8) (hR : rc.cells = uc ∧ rc.slots = us ∧ rc.frames + 1 ≤ rm.frames ∧ 8 + (maxL + 11) + rc.locals ≤ rm.locals) (hcs : cn + uc ≤ rm.cells ∧ sn + us ≤ rm.slots)
    (kx : ∀ (E : Nat), z = .inl E → ∀ (H : Heap) (locs : List Loc) (ls : Array Slot) (q9 : Addr) (ce : Cell), hW g cJ qo S2 o H → va_S A X.2.2.2.2.1.heap H locs → lv_has ls nL L → H[q9]? = some ce → ce.vm = .none → X.2.2.2.2.1.vm.findClass (exN E) = some ce.cls → vx_W X.1 X.2.1 X.2.2.1 X.2.2.2.1 X.2.2.2.2.1 X.2.2.2.2.2.1 X.2.2.2.2.2.2.1 X.2.2.2.2.2.2.2.1 X.2.2.2.2.2.2.2.2.1 X.2.2.2.2.2.2.2.2.2.1 H locs (cn + uc) (sn + us) X.2.2.2.2.2.2.2.2.2.2 (F0 X.2.2.2.2.2.1 pc ls rest) q9)
    (kk : ∀ v, z = .inr v → LV X A nL (cn + uc) (sn + us) (hW g cJ qo S2 o) L (pc + 3) ((ov v).toList ++ rest)) : LV X A nL cn sn (hW g cJ qo S o) L pc st := by
  obtain ⟨p, l, en, R, s, m, args, below, meth, c, Q⟩ := X
  obtain ⟨hx, hb, hml, hown, hts, hN, hlk, rfl⟩ := h0
  obtain ⟨hK0, hJ, hw, ha, hstt, hT0, hZ, hC⟩ := hK
  subst hst; subst hA
  intro H locs ls hP hS hls
  have hsub : ∀ q, AA (wC g) H.size q → AW g qo s.heap.size q := fun q h => Or.inl (AA_up hS.1 q h)
  have hout : ∀ H1 : Heap, (∀ q : Nat, q < H.size → ¬ AA (wC g) H.size q → H1[q]? = H[q]?) → outC cJ qo o H1 := fun H1 hk => out_kept hP.2 (hk qo (out_lt hP.2) (fun h => by
    rcases h with ⟨c, k, hk, e⟩ | h
    · exact ha c k hk e.symm
    · exact absurd (out_lt hP.2) (Nat.not_lt.mpr h)))
  have hpre : ∀ U : State, U.heap = H → s.WarmedH U.vm → PXx (wC g) (.ref (wA (wC g) 7 0) :: As) S H.size (.ref (wA (wC g) 7 0) :: As : List Value).toArray U := fun U hU hW => ⟨rfl, by rw [hU], by rw [hU]; exact hP.1, va_K.moved hW.alike hK0, nw_warm hW hN, hw, ext_warm hW hT0, by rw [hU]; exact exz_narrow (exz_moved hW.alike (exz_kept hZ hS.2.1)) hsub⟩
  intro T hT X
  rcases vx_runV (As := As) (rest := rest) ⟨hx, hb, hml, hown, hts⟩ (hM l H.size hstt) ⟨callB_of n hts (goodGW hc) rfl hR.1 hR.2.1 (hts _ hini) (hts _ hlk1) hd ⟨hR.2.2.1, hR.2.2.2⟩, hts _ hi, hts _ hs⟩ ⟨px_blind, grecv (ob_7 g) hP.1 hK0 (Nat.le_of_ble_eq_true rfl), hpre⟩ (g := F0 m pc ls (As.reverse ++ .ref (wA (wC g) 7 0) :: rest)) rfl hn hls.1 rfl (lv_room hW8) hdg ⟨hcs.1, hcs.2⟩ T hT X with ⟨v, st₀, t', T', Lo, h0, X', hL, e1, e2, ⟨⟨ht, hv, hb1⟩, hF⟩, st⟩ | ⟨q, st₀, t', T', Lo, E, ce, h0, X', hL, e1, e2, ⟨⟨ht, hb1⟩, hF⟩, hce, hcv, hcl, st⟩
  · cases hv
    obtain ⟨k1, k2, k3⟩ := vx_keep h0 e1 hS (fun q _ h => hsub q h) (fun q h => hsub q h) hL hF
    cases z with
    | inl n => cases ht
    | inr v =>
      obtain ⟨t2, a1, b1⟩ := kk v rfl T'.heap (locs ++ Lo) ls ⟨by rw [e1]; exact hb1, hout _ k2⟩ k3 hls T' rfl X'
      exact ⟨t2, st t2 a1, b1⟩
  · obtain ⟨k1, k2, k3⟩ := vx_keep h0 e1 hS (fun q _ h => hsub q h) (fun q h => hsub q h) hL hF
    cases z with
    | inr v => cases ht
    | inl n =>
      cases ht
      obtain ⟨t2, a1, b1⟩ := kx n rfl T'.heap (locs ++ Lo) ls q ce ⟨by rw [e1]; exact hb1, hout _ k2⟩ k3 hls (by rw [e1]; exact hce) hcv hcl T' rfl X'
      exact ⟨t2, st.trans a1, b1⟩
/-- caught: the row x, behind rows that don't take it -/
theorem w_catch {P : Heap → Prop} {pre suf : List ExceptionTableEntry} {x : ExceptionTableEntry} {E : Nat} (h0 : LX own cc nL rm X) (hK : KW g cJ qo X) (hE : EW r g cJ qo S' o' mc ms hh X) (hsplit : tableOf hh = pre ++ x :: suf) (hpass : ∀ z ∈ pre, z.catchType ≠ 0 ∧ ∃ nm : String, Cond.classLink own z.catchType nm ∈ GW ∧ (exN E, nm) ∈ NCL) (hx : covers x pc = true) (hx0 : x.catchType ≠ 0) (hlink : Cond.classLink own x.catchType (exN E) ∈ GW) (hcast : Cond.castable (exN E) (exN E) ∈ DW) (e : x.handlerPc = pc')
    (k : ∀ q9 : Nat, LV X A nL cn sn P L pc' [.ref q9]) : ∀ (H : Heap) (locs : List Loc) (ls : Array Slot) (q9 : Addr) (ce : Cell), P H → va_S A X.2.2.2.2.1.heap H locs → lv_has ls nL L → H[q9]? = some ce → ce.vm = .none → X.2.2.2.2.1.vm.findClass (exN E) = some ce.cls → vx_W X.1 X.2.1 X.2.2.1 X.2.2.2.1 X.2.2.2.2.1 X.2.2.2.2.2.1 X.2.2.2.2.2.2.1 X.2.2.2.2.2.2.2.1 X.2.2.2.2.2.2.2.2.1 X.2.2.2.2.2.2.2.2.2.1 H locs cn sn X.2.2.2.2.2.2.2.2.2.2 (F0 X.2.2.2.2.2.1 pc ls st) q9 := by
  obtain ⟨p, l, en, R, s, m, args, below, meth, c, Q⟩ := X
  obtain ⟨h1, h2, h3, hown, hts, hN, hlk, rfl⟩ := h0
  obtain ⟨hK0, hJ, hw, ha, hstt, hT0, hZ, hC⟩ := hK
  obtain ⟨-, -, htab⟩ := hE
  subst e
  intro H locs ls q9 ce hP hS hl hce hcv hcl
  exact vx_catch hown pre x suf (htab.trans hsplit) (fun z hz => by
    obtain ⟨z0, nm, hz1, hz2⟩ := hpass z hz
    exact Or.inr ⟨z0, nm, hts _ hz1, hC _ hz2⟩) hx hx0 (hts _ hlink) (dw_use hT0.1 _ hcast) hce hcv hcl (k q9 H locs ls hP hS hl)
end LWR
