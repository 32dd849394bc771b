/-! THE CLAIM OUT OF ONE WALK OF THE LAW'S BODY. Your part is whole_start (and what it stands on); all else here is the same for every law, but numbers. -/
def R_law : String := "GreenwaveLaw"
def lw_P (b : Addr) (xs : List Int32) (args : Array Value) (s : State) : Prop := args = #[.ref b] ∧ s.IntsAt b xs ∧ xs.length ≤ 260 ∧ (Jvm.Cond.and given_1 narrow_1).before args s = true
def lw_Q (_ : Array Value) (s : State) (o : Outcome) (t : State) : Prop := o = .returned (some (.int 1)) ∧ Framed s o t [] 648415 7156452
def lw_Z (below : List Frame) (a : Array Value) (s : State) : State → Prop := fun t => ∃ o, t.status = .running ∧ Ended t below o ∧ lw_Q a s o t
/-- the law's own end, with 1 on the stack, nothing written that was there before, its room as the claim has it -/
theorem lw_ret {p : Program} {l : Launch} {e : Env} {s : State} {m : MethodId} {below : List Frame} {meth : Method} {c : Code} {b : Nat} (hx : p.tables.exec = Jvm.exec) (hb : c.code = code) (hr : meth.sig.returnType = ret) (hlocks : meth.locks = false) {pc : Nat} {H : Heap} {ls : Array Slot} (hdg : decode code pc = .ok (.ireturn, 1)) : W p l e room_1 s m #[Value.ref b] below meth c H [] 648415 7156452 (lw_Z below #[Value.ref b] s) (F0 m pc ls [.int 1]) := by
  intro T hT X
  obtain ⟨fs, hret, hrun, hended, hW, hframe⟩ := X.leave (v := some (.int 1)) (hlocks := hlocks) (fun h => by rw [hr] at h; cases h)
  have hmeth' : T.vm.method? m = some meth := X.method'
  refine ⟨T.setFrames fs, ?_, .returned (some (.int 1)), hrun, hended, rfl, ⟨_, rfl⟩, hW, hframe⟩
  jvm_step X.here [X.here.top, hx, hb, hdg, hmeth', hr, ret, narrow_b1]
  (try refine ⟨rfl, ?_⟩); (try refine ⟨rfl, ?_⟩)
  first | (intro acts; rw [hret _ acts rfl rfl rfl]) | rw [hret _ _ rfl rfl rfl]
  exact Steps.refl _
/-- what holds at the law's entry: the machine, the code, the tables' words (any of lw_tbl by 'hts w (by decide +kernel)'), the script of L ints xs at the cell b, what the Statement gives of the start (any of its parts by flat_of_before) -/
def lw_At (p : Program) (s : State) (m : MethodId) (meth : Method) (c : Code) (b L : Nat) (xs : Nat → Int32) : Prop :=
  p.tables.exec = Jvm.exec ∧ c.code = code ∧ meth.sig.returnType = ret ∧ c.maxLocals = 8 ∧ s.vm.findClass R_law = some m.cls ∧ (∀ w ∈ lw_tbl, w.before #[Value.ref b] s = true) ∧ va_X b L xs s s.heap ∧ b < s.heap.size ∧ meth.locks = false ∧ (Jvm.Cond.and given_1 narrow_1).before #[Value.ref b] s = true
theorem vs_cl : Cond.classLink RL 9 RX7 ∈ GW := gw_of (i := 45) (by decide +kernel) (by decide +kernel)
theorem vs_in : Cond.instantiable RX7 3 ∈ GW := gw_of (i := 46) (by decide +kernel) (by decide +kernel)
theorem vs_ml : Cond.methodLink RL 124 yX7_init ∈ GW := gw_of (i := 47) (by decide +kernel) (by decide +kernel)
theorem vs_z7 : Cond.initialized RX7 ∈ GW := gw_of (i := 28) (by decide +kernel) (by decide +kernel)
theorem vs_i7 : Cond.instanceMethod yX7_init ∈ GW := gw_of (i := 48) (by decide +kernel) (by decide +kernel)
theorem vs_c7 : Cond.code yX7_init cX7_init 1 none ∈ GW := gw_of (i := 49) (by decide +kernel) (by decide +kernel)
/-! The law from its entry to its loop. -/
section LN
variable {own : String} {cc : ByteArray} {nL : Nat} {rm : Room} {X : MX} {cn sn : Nat} {P : Heap → Prop} {L : List (Nat × Value)} {pc pc' : Nat} {st : List Value} {D : va_G} {cl : List vw_C} {tys : List (ClassId × FieldType)}
theorem l_newZ (h0 : LX own cc nL rm X) (hK : va_K D cl tys X.2.2.2.2.1) {C : String} {T : u_T} {N ci idx : Nat} (hc : cl[ci]? = some (C, T, N)) (hin : ∀ t ∈ u_ws C T N, t ∈ GW) (ty : Nat → FieldType) (hty : ∀ k, k < N → parseFieldDescriptor (T k).2.2.1 = some (ty k)) (hlk : Cond.classLink own idx C ∈ GW) (hins : Cond.instantiable C N ∈ GW) (hini : Cond.initialized C ∈ GW) {fs : List Value} (hfs : ∀ j, j < N → defaultValue (ty j) = vp_V fs j) (hcs : cn + 1 ≤ rm.cells ∧ sn + N ≤ rm.slots) (hdg : decode cc pc = .ok (.new idx, 3)) (e : pc + 3 = pc')
    (k : ∀ z : Nat, (∃ H0 : Heap, P H0 ∧ H0.size = z ∧ X.2.2.2.2.1.heap.size ≤ z) → LV X (AL X) nL (cn + 1) (sn + N) (fun H1 => hq D cl z [.inr (ci, fs)] H1 ∧ ∃ H0 : Heap, P H0 ∧ H0.size = z ∧ ∀ q : Nat, q < z → H1[q]? = H0[q]?) L pc' (.ref z :: st)) : LV X (AL X) nL cn sn P L pc st := by
  obtain ⟨p, l, en, R, s, m, args, below, meth, c, Q⟩ := X
  obtain ⟨hx, hb, hml, hown, hts, hN, hlk', rfl⟩ := h0
  subst e
  intro H locs ls hP hS hl
  have hKn := hK.1 ci _ hc
  refine W.newcK hx hb hown (hts _ hlk) (hts _ hins) (hts _ hini) rfl hdg hcs.1 hcs.2 hKn.2.1 rfl fun H1 kC hkC e1 z1 o1 => ?_
  have h00 : hq D cl H.size [] H := ⟨rfl, fun i e h => by cases h⟩
  exact k H.size ⟨H, hP, rfl, hS.1⟩ H1 locs ls ⟨hq_push h00 rfl z1 o1 ⟨_, hc, (u_born ty hts hin hKn hkC e1 hty).to hfs⟩, H, hP, rfl, o1⟩ ⟨Nat.le_trans hS.1 (by rw [z1]; omega), fun x h1 h2 => (o1 x (Nat.lt_of_lt_of_le h1 hS.1)).trans (hS.2.1 x h1 h2), hS.2.2⟩ hl
theorem l_ctor (h0 : LX own cc nL rm X) {z : Nat} (hz : X.2.2.2.2.1.heap.size ≤ z) (hK : va_K D cl tys X.2.2.2.2.1) (hO : va_AO "Greenwave$Junction" X.2.2.2.2.1) {idx maxL : Nat} {y : MethodName} {bytes : ByteArray} {rc : Room} {mc1 ms1 : Nat} {e0 : va_E} {B : Heap → Prop} (hl : Cond.methodLink own idx y ∈ GW) (hi : Cond.instanceMethod y ∈ GW) (hc : Cond.code y bytes maxL none ∈ GW) (hini : Cond.initialized y.cls ∈ GW) (hyn : y.name = "<init>") (hd : plainY y 0) (hM : ctI y bytes maxL rc mc1 ms1 D cl tys z [.ref z] [e0] B) (hPz : ∀ H, P H → hq D cl z [e0] H) (hdg : decode cc pc = .ok (.invokespecial idx, 3)) (e : pc + 3 = pc') (hW : (st.map fun v => v.category).sum ≤ 8) (hR : rc.cells = mc1 ∧ rc.slots = ms1 ∧ rc.frames + 1 ≤ rm.frames ∧ 8 + (maxL + 11) + rc.locals ≤ rm.locals) (hcs : cn + mc1 ≤ rm.cells ∧ sn + ms1 ≤ rm.slots)
    (k : LV X (AL X) nL (cn + mc1) (sn + ms1) (fun H1 => B H1 ∧ ∃ H0 : Heap, P H0 ∧ ∀ q : Nat, q < z → H1[q]? = H0[q]?) L pc' st) : LV X (AL X) nL cn sn P L pc (.ref z :: st) := by
  obtain ⟨p, l, en, R, s, m, args, below, meth, c, Q⟩ := X
  obtain ⟨hx, hb, hml, hown, hts, hN, hlk', rfl⟩ := h0
  subst e
  intro H locs ls hP hS hls
  have hH := hPz H hP
  have hpre : ∀ U : State, U.heap = H → s.WarmedH U.vm → PI D cl tys z [e0] (.ref z :: []) (Value.ref z :: []).toArray U := fun U hU hW => ⟨rfl, by rw [hU]; exact hH, va_K.moved hW.alike hK, nw_warm hW hN, va_AO.moved hW.alike hO⟩
  have hsz : H.size = z + 1 := hH.1
  intro T hT X
  obtain ⟨v, st₀, t, T', Lo, h0, X', hL, e1, e2, ⟨⟨hv, hb1⟩, hzz, hk⟩, stp⟩ := va_runI (As := []) (rest := st) (locs := locs) (g := F0 m pc ls (.ref z :: st)) ⟨hx, hb, hml, hown, hts⟩ (hM l) ⟨callB_of 0 hts (goodGW hc) rfl hR.1 hR.2.1 (hts _ hini) (hts _ hl) hd ⟨hR.2.2.1, hR.2.2.2⟩, hyn, hts _ hi⟩ ⟨pi_blind, hpre⟩ rfl rfl hls.1 rfl (lv_room hW) hdg hcs T hT X
  cases hv
  rw [h0] at hzz hk
  obtain ⟨t2, a1, b1⟩ := k T'.heap (locs ++ Lo) ls (by
      rw [e1]
      exact ⟨hb1, H, hP, fun q hq => hk q (by omega) (Nat.not_le.mpr hq)⟩)
    ⟨Nat.le_trans hS.1 (by rw [e1]; exact hzz), fun q h1 h2 => by rw [e1, hk q (Nat.lt_of_lt_of_le h1 hS.1) (fun w => h2 (Nat.le_trans hz w))]; exact hS.2.1 q h1 h2, fun q hq => by
      rcases List.mem_append.mp hq with h | h
      · exact hS.2.2 q h
      · exact Nat.le_trans hz (hL q h)⟩ hls T' rfl X'
  exact ⟨t2, stp t2 a1, b1⟩
end LN
theorem hp_low {w : WX} {S : Mem} {z : Nat} {H H0 : Heap} (h : hp w S H0) (hz : H0.size ≤ z) (hq : ∀ q : Nat, q < z → H[q]? = H0[q]?) : hp w S H := fun c k hk => (h c k hk).kept (hq _ (Nat.lt_of_lt_of_le (h c k hk).lt hz))
def pick {α : Type} (a0 a1 a2 a3 a4 a5 a6 a7 : α) (k : Nat) : α := match k with
  | 0 => a0
  | 1 => a1
  | 2 => a2
  | 3 => a3
  | 4 => a4
  | 5 => a5
  | 6 => a6
  | _ => a7
theorem nw_all {A : Array Value} {s : State} (hts : ∀ w ∈ lw_tbl, w.before A s = true) : ∀ t ∈ NW, va_Nw t s := by
  intro t ht
  have h1 := hts t (List.mem_filter.mp ht).1
  have h2 : isNest t = true := (List.mem_filter.mp ht).2
  cases t <;> first
    | exact va_Nw.of rfl h1
    | cases h2
theorem dw_all {A : Array Value} {s : State} (hts : ∀ w ∈ lw_tbl, w.before A s = true) : ∀ t ∈ DW, va_Nw t s := by
  intro t ht
  have h1 := hts t (List.mem_filter.mp ht).1
  have h2 : isDC t = true := (List.mem_filter.mp ht).2
  cases t <;> first
    | exact va_Nw.of rfl h1
    | cases h2
theorem sw_all {b : Nat} {s : State} {c1 c7 : ClassId} (hts : ∀ w ∈ lw_tbl, w.before #[Value.ref b] s = true) (h1 : s.vm.findClass RX1 = some c1) (h7 : s.vm.findClass RX7 = some c7) : ∀ q ∈ SW, ∃ sa, vk_R q.1 q.2.1 q.2.2 sa s := by
  have hwd : ∀ {i : Nat} {w : Cond}, lw_tbl[i]? = some w → w.before #[Value.ref b] s = true := fun h => hts _ (List.mem_of_getElem? h)
  have mk1 : ∀ (k : Nat) (tx : String), (Cond.stringRef RX1 k tx).before #[Value.ref b] s = true → ∃ sa, vk_R RX1 k tx sa s := fun k tx h => by
    obtain ⟨-, -, -, a, -, -, -, -, -, hev⟩ := Cond.stringRef_spec h1 h
    exact ⟨a, vk_R.of h hev⟩
  have mk7 : ∀ (k : Nat) (tx : String), (Cond.stringRef RX7 k tx).before #[Value.ref b] s = true → ∃ sa, vk_R RX7 k tx sa s := fun k tx h => by
    obtain ⟨-, -, -, a, -, -, -, -, -, hev⟩ := Cond.stringRef_spec h7 h
    exact ⟨a, vk_R.of h hev⟩
  intro q hq
  simp only [SW, List.mem_cons, List.not_mem_nil, or_false] at hq
  rcases hq with rfl | rfl | rfl | rfl | rfl | rfl | rfl | rfl | rfl | rfl | rfl | rfl | rfl | rfl | rfl | rfl | rfl | rfl | rfl
  · exact mk1 35 _ (hwd (i := 299) (by decide +kernel))
  · exact mk7 42 _ (hwd (i := 725) (by decide +kernel))
  · exact mk7 232 _ (hwd (i := 477) (by decide +kernel))
  · exact mk7 57 _ (hwd (i := 479) (by decide +kernel))
  · exact mk7 218 _ (hwd (i := 453) (by decide +kernel))
  · exact mk7 70 _ (hwd (i := 464) (by decide +kernel))
  · exact mk7 81 _ (hwd (i := 433) (by decide +kernel))
  · exact mk7 95 _ (hwd (i := 493) (by decide +kernel))
  · exact mk1 44 _ (hwd (i := 522) (by decide +kernel))
  · exact mk7 108 _ (hwd (i := 523) (by decide +kernel))
  · exact mk7 121 _ (hwd (i := 506) (by decide +kernel))
  · exact mk7 223 _ (hwd (i := 537) (by decide +kernel))
  · exact mk7 229 _ (hwd (i := 795) (by decide +kernel))
  · exact mk7 225 _ (hwd (i := 783) (by decide +kernel))
  · exact mk7 160 _ (hwd (i := 812) (by decide +kernel))
  · exact mk7 177 _ (hwd (i := 528) (by decide +kernel))
  · exact mk7 182 _ (hwd (i := 538) (by decide +kernel))
  · exact mk7 190 _ (hwd (i := 613) (by decide +kernel))
  · exact mk7 195 _ (hwd (i := 615) (by decide +kernel))
/-- what is left to say of pure functions: a new object is reset to some memory, and the law answers 1 over two such objects, for every script -/
def LawOK (fu : Nat) : Prop := ∃ S1 : Mem, f_X1_reset fu 2 60 S00 = some ((), S1) ∧ ∀ (xs : Nat → Int32) (Ln : Nat), Ln ≤ 260 → ∃ S' S2' : Mem, f_L_law fu xs Ln S1 S1 = some (1, S', S2')
set_option maxHeartbeats 4000000 in
theorem law_of {fu : Nat} (hLaw : LawOK fu) {p : Program} {e : Env} {s : State} {m : MethodId} {below : List Frame} {meth : Method} {c : Code} (l : Launch) (hflags : l.flags = flags0) {b L : Nat} {xs : Nat → Int32} (hLn : L ≤ 260) (C0 : lw_At p s m meth c b L xs) : W p l e room_1 s m #[Value.ref b] below meth c s.heap [] 0 0 (lw_Z below #[Value.ref b] s) (entryFrame m ([Value.ref b] : List Value).toArray 8) := by
  obtain ⟨hx, hb, hr, hml, hown, hts, hX, hbl, hlocks, hgv⟩ := id C0
  have htG : ∀ t ∈ GW, t.before #[Value.ref b] s = true := fun t ht => hts t (List.mem_filter.mp ht).1
  have hwd : ∀ {i : Nat} {w : Cond}, lw_tbl[i]? = some w → w.before #[Value.ref b] s = true := fun h => hts _ (List.mem_of_getElem? h)
  obtain ⟨c0, i0, hK0⟩ := u_known (C := RX0) (T := TX0) (N := 5) (n := 5) htG inX0 (hwd (i := 172) (by decide +kernel))
  obtain ⟨c1, i1, hK1⟩ := u_known (C := RX1) (T := TX1) (N := 3) (n := 3) htG inX1 (hwd (i := 54) (by decide +kernel))
  obtain ⟨c2, i2, hK2⟩ := u_known (C := RX2) (T := TX2) (N := 2) (n := 2) htG inX2 (hwd (i := 178) (by decide +kernel))
  obtain ⟨c3, i3, hK3⟩ := u_known (C := RX3) (T := TX3) (N := 17) (n := 17) htG inX3 (hwd (i := 61) (by decide +kernel))
  obtain ⟨c4, i4, hK4⟩ := u_known (C := RX4) (T := TX4) (N := 4) (n := 4) htG inX4 (hwd (i := 67) (by decide +kernel))
  obtain ⟨c5, i5, hK5⟩ := u_known (C := RX5) (T := TX5) (N := 2) (n := 2) htG inX5 (hwd (i := 184) (by decide +kernel))
  obtain ⟨c6, i6, hK6⟩ := u_known (C := RX6) (T := TX6) (N := 6) (n := 6) htG inX6 (hwd (i := 222) (by decide +kernel))
  obtain ⟨c7, i7, hK7⟩ := u_known (C := RX7) (T := TX7) (N := 3) (n := 3) htG inX7 (hwd (i := 46) (by decide +kernel))
  obtain ⟨cI, kI, pI, aI1, aI2, aI3⟩ := Cond.arrayClass_spec (hwd (i := 90) (w := .arrayClass .int) (by decide +kernel))
  have hov : (Cond.arrayOver (.object "Greenwave$Junction")).before #[Value.ref b] s = true := hwd (i := 60) (by decide +kernel)
  obtain ⟨pO, cO, kO, aO1, aO2, aO3, aO4, aO5⟩ := Cond.arrayOver_spec hov
  have hAI : ArrOfT s cI .int := fun n z => ⟨fun k h => (by cases h), kI, aI2, pI, aI3⟩
  have hAO : ArrOfT s cO (.object "Greenwave$Junction") := fun n z => ⟨fun k h => (by cases h), kO, aO3, pO, aO4⟩
  obtain ⟨D, hKC⟩ : ∃ D : va_G, va_K D clC [(cI, .int), (cO, .object "Greenwave$Junction")] s := by
    refine ⟨(pick c0 c1 c2 c3 c4 c5 c6 c7, pick i0 i1 i2 i3 i4 i5 i6 i7), fun k q hq => ?_, fun k q hk => ?_⟩
    · match k, hq with
      | 0, hq => cases hq; exact hK0
      | 1, hq => cases hq; exact hK1
      | 2, hq => cases hq; exact hK2
      | 3, hq => cases hq; exact hK3
      | 4, hq => cases hq; exact hK4
      | 5, hq => cases hq; exact hK5
      | 6, hq => cases hq; exact hK6
      | 7, hq => cases hq; exact hK7
      | k + 8, hq => cases hq
    · match k, hk with
      | 0, hk => cases hk; exact ⟨hAI, aI1⟩
      | 1, hk => cases hk; exact ⟨hAO, kO, pO, aO3, aO4, aO1, aO5⟩
      | k + 2, hk => cases hk
  have hfl := flat_of_before _ hgv
  have hEXT : EXT s := ⟨dw_all hts, sw_all hts hK1.2.1 hK7.2.1⟩
  have hEXZ : EXZ (fun q => s.heap.size ≤ q) s s.heap := ⟨vx_Zqof (hwd (i := 285) (by decide +kernel)) (hwd (i := 36) (by decide +kernel)) (hfl _ (by decide +kernel)) (fun a h => Nat.not_le.mpr h), vx_Zqof (hwd (i := 287) (by decide +kernel)) (hwd (i := 36) (by decide +kernel)) (hfl _ (by decide +kernel)) (fun a h => Nat.not_le.mpr h)⟩
  have hNC : NCs s := by
    intro q hq
    simp only [NCL, List.mem_cons, List.not_mem_nil, or_false] at hq
    rcases hq with rfl | rfl | rfl | rfl | rfl | rfl <;> exact va_Nc.of (hfl _ (by decide +kernel))
  have hst : l.stackTraces = false := by
    unfold Launch.stackTraces
    rw [hflags]
    decide
  have hNW := nw_all hts
  obtain ⟨S1, hs1, hlaw⟩ := hLaw
  obtain ⟨S', S2', hlaw⟩ := hlaw xs L hLn
  have hl := lv_entry ([.ref b]) (n := 8) (Nat.le_of_ble_eq_true rfl)
  rw [lg_entry_eq]
  generalize (lg_sl ([.ref b]) ++ List.replicate (8 - (lg_sl ([.ref b])).length) Slot.unset).toArray = ls at hl ⊢
  have hl : lv_has ls 8 [(0, .ref b)] := hl
  generalize hXe : ((p, l, e, room_1, s, m, #[Value.ref b], below, meth, c, lw_Z below #[Value.ref b] s) : MX) = X
  have h0 : LX RL cL_law 8 room_1 X := by
    rw [← hXe]
    exact ⟨hx, hb, hml, hown, htG, hNW, hlocks, rfl⟩
  have hXs : X.2.2.2.2.1 = s := by rw [← hXe]
  have hKX : KX b L xs X := by
    rw [← hXe]
    exact ⟨hX, hbl⟩
  have hmain : LV X (AL X) 8 0 0 (fun H => H = s.heap) [(0, .ref b)] 0 [] := by
    refine l_newZ (pc' := 3) h0 (D := D) (cl := clC) (tys := [(cI, .int), (cO, .object "Greenwave$Junction")]) (by rw [hXs]; exact hKC) (T := TX7) (N := 3) (ci := 7) rfl inX7 tyX7 tyX7_ok vs_cl vs_in vs_z7 dfX7 ⟨Nat.le_of_ble_eq_true rfl, Nat.le_of_ble_eq_true rfl⟩ dL_law_0 rfl (fun z hz => ?_)
    obtain ⟨Hz, -, hz0, hz1⟩ := hz
    refine l_dup (pc' := 4) h0 dL_law_3 rfl rfl ?_
    refine l_ctor (pc' := 7) h0 hz1 (by rw [hXs]; exact hKC) (by rw [hXs]; exact va_AO.of hov) vs_ml vs_i7 vs_c7 vs_z7 rfl ⟨by decide +kernel, by decide +kernel, by decide +kernel⟩ (ci_X7 D cI cO z fu hs1) (fun H h => h.1) dL_law_4 rfl (Nat.le_of_ble_eq_true rfl) ⟨rfl, rfl, Nat.le_of_ble_eq_true rfl, Nat.le_of_ble_eq_true rfl⟩ ⟨Nat.le_of_ble_eq_true rfl, Nat.le_of_ble_eq_true rfl⟩ ?_
    refine l_imp (P' := hp (wC (gC D cI cO z)) S1) (fun H h => h.1) ?_
    refine l_astore_n (pc' := 8) (L' := [(1, .ref z), (0, .ref b)]) h0 dL_law_7 rfl (Nat.le_of_ble_eq_true rfl) rfl rfl ?_
    refine l_newZ (pc' := 11) h0 (D := D) (cl := clC) (tys := [(cI, .int), (cO, .object "Greenwave$Junction")]) (by rw [hXs]; exact hKC) (T := TX7) (N := 3) (ci := 7) rfl inX7 tyX7 tyX7_ok vs_cl vs_in vs_z7 dfX7 ⟨Nat.le_of_ble_eq_true rfl, Nat.le_of_ble_eq_true rfl⟩ dL_law_8 rfl (fun z2 hz2 => ?_)
    obtain ⟨Hy, hy1, hy2, hy3⟩ := hz2
    have hzz : z + 62 ≤ z2 := by
      have := (hy1 6 0 (show 0 < 1 by decide)).lt
      have : z + 61 < Hy.size := this
      omega
    refine l_dup (pc' := 12) h0 dL_law_11 rfl rfl ?_
    refine l_ctor (pc' := 15) h0 hy3 (by rw [hXs]; exact hKC) (by rw [hXs]; exact va_AO.of hov) vs_ml vs_i7 vs_c7 vs_z7 rfl ⟨by decide +kernel, by decide +kernel, by decide +kernel⟩ (ci_X7 D cI cO z2 fu hs1) (fun H h => h.1) dL_law_12 rfl (Nat.le_of_ble_eq_true rfl) ⟨rfl, rfl, Nat.le_of_ble_eq_true rfl, Nat.le_of_ble_eq_true rfl⟩ ⟨Nat.le_of_ble_eq_true rfl, Nat.le_of_ble_eq_true rfl⟩ ?_
    refine l_imp (P' := pW2 (gC D cI cO z) (gC D cI cO z2) S1 S1) (fun H h => ?_) ?_
    · obtain ⟨h1, H0, ⟨h2, H9, h3, h4, h5⟩, h6⟩ := h
      refine ⟨?_, h1⟩
      have h7 : hp (wC (gC D cI cO z)) S1 H0 := hp_low h3 (Nat.le_of_eq h4) h5
      intro c k hk
      refine (h7 c k hk).kept (h6 _ ?_)
      have := offC_lt hk
      show z + offC c k < z2
      omega
    refine l_astore_n (pc' := 16) (L' := [(2, .ref z2), (1, .ref z), (0, .ref b)]) h0 dL_law_15 rfl (Nat.le_of_ble_eq_true rfl) rfl rfl ?_
    have hzs : s.heap.size ≤ z := by rw [hXs] at hz1; exact hz1
    have hKW : ∀ z' : Nat, z ≤ z' → KW (gC D cI cO z') (AL X) X := by
      intro z' hz'
      rw [← hXe]
      refine ⟨hKC, wok_C _ _ _ _, hst, hEXT, hEXZ, hNC, fun n q hn hq => ?_⟩
      show s.heap.size ≤ q
      rcases hq with ⟨c, k, hk, rfl⟩ | hq
      · show s.heap.size ≤ z' + offC c k
        omega
      · exact Nat.le_trans hn hq
    have hap : aptC (gC D cI cO z) (gC D cI cO z2) := fun c k c' k' hk hk' => by
      have := offC_lt hk
      show z + offC c k ≠ z2 + offC c' k'
      omega
    have hend : EL (gC D cI cO z) (gC D cI cO z2) 1 S' S2' X := by
      intro cn hcn L9 x S9 S29 he
      cases he
      rw [← hXe]
      intro H locs ls hP hS hl
      exact va_forget hS.2.2 (W.widen (k := 648415) (n := 7156452) hcn (by omega) (lw_ret hx hb hr hlocks dL_law_291))
    refine l_widen (cn' := 400) (sn' := 6 * 400) (Nat.le_of_ble_eq_true rfl) (Nat.le_of_ble_eq_true rfl) ?_
    exact w_L_law h0 (hKW z (Nat.le_refl _)) (hKW z2 (by omega)) hap hKX S1 S1 fu hend hlaw
  rw [← hXe] at hmain
  exact hmain s.heap [] ls rfl va_S.rf hl
