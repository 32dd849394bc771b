/-! The law's own rows: the script, its wrappers, the model's and the class's methods. -/
def AL (X : MX) : Nat → Prop := fun q => X.2.2.2.2.1.heap.size ≤ q
def KL (g : GC) (g' : GR) (cJ : ClassId) (qo b Ln : Nat) (xs : Nat → Int32) (X : MX) : Prop := match X with
  | (_, l, _, _, s, _, _, _, _, _, _) => va_K (wD (wC g)) (wCl (wC g)) (wTy (wC g)) s ∧ va_K (wD (wR g')) (wCl (wR g')) (wTy (wR g')) s ∧ ArrOfT s cJ .long ∧ wok (wC g) ∧ wok (wR g') ∧ aptO (wC g) qo ∧ aptO (wR g') qo ∧ aptR g g' ∧ l.stackTraces = false ∧ EXT s ∧ EXZ (fun q => s.heap.size ≤ q) s s.heap ∧ NCs s ∧ va_X b Ln xs s s.heap ∧ b < s.heap.size ∧ (∀ c k : Nat, k < wN (wC g) c → s.heap.size ≤ wA (wC g) c k) ∧ (∀ c k : Nat, k < wN (wR g') c → s.heap.size ≤ wA (wR g') c k) ∧ s.heap.size ≤ qo
theorem goodS {own : String} {idx maxL : Nat} {y : MethodName} {bytes : ByteArray} {hh : List (Nat × Nat × Nat × Nat)} (h1 : Cond.methodLink own idx y ∈ GW) (h2 : Cond.static y ∈ GW) (h3 : Cond.initialized y.cls ∈ GW) (h4 : Cond.codeWith y bytes maxL (some .int) hh ∈ GW) : GoodIn GW (va_wsS own idx y (.codeWith y bytes maxL (some .int) hh :: GW)) := by
  intro w hw
  have hin : w ∈ GW := by
    rcases List.mem_append.mp hw with h | h
    · rcases List.mem_cons.mp h with rfl | h
      · exact h1
      · rcases List.mem_cons.mp h with rfl | h
        · exact h2
        · rcases List.mem_cons.mp h with rfl | h
          · exact h3
          · exact absurd h List.not_mem_nil
    · rcases List.mem_cons.mp h with rfl | h
      · exact h4
      · exact h
  exact ⟨hin, good_of_word (List.mem_filter.mp hin).2⟩
theorem behind_R {g : GC} {g' : GR} {cJ : ClassId} {qo : Nat} {S SR SR' : Mem} {o : Nat → Int64} (hR : aptR g g') (hO : aptO (wR g') qo) {H : Heap} (h : behind (hL g g' cJ qo S SR o) (wR g') SR' H) : hL g g' cJ qo S SR' o H := by
  obtain ⟨H0, ⟨h1, h2, h3⟩, h4, h5, h6⟩ := h
  refine ⟨hp_frame h1 h6 (fun c k hk hlt z => ?_), h4, out_kept h3 (h6 qo (out_lt h3) (fun z => ?_))⟩
  · rcases z with ⟨c', k', hk', e⟩ | z
    · exact hR c k c' k' hk hk' e
    · exact absurd hlt (Nat.not_lt.mpr z)
  · rcases z with ⟨c', k', hk', e⟩ | z
    · exact hO c' k' hk' e.symm
    · exact absurd (out_lt h3) (Nat.not_lt.mpr z)
theorem behind_C {g : GC} {g' : GR} {cJ : ClassId} {qo : Nat} {S S' SR : Mem} {o : Nat → Int64} (hR : aptR g g') (hO : aptO (wC g) qo) {H : Heap} (h : behind (hL g g' cJ qo S SR o) (wC g) S' H) : hL g g' cJ qo S' SR o H := by
  obtain ⟨H0, ⟨h1, h2, h3⟩, h4, h5, h6⟩ := h
  refine ⟨h4, hp_frame h2 h6 (fun c k hk hlt z => ?_), out_kept h3 (h6 qo (out_lt h3) (fun z => ?_))⟩
  · rcases z with ⟨c', k', hk', e⟩ | z
    · exact hR c' k' c k hk' hk e.symm
    · exact absurd hlt (Nat.not_lt.mpr z)
  · rcases z with ⟨c', k', hk', e⟩ | z
    · exact hO c' k' hk' e.symm
    · exact absurd (out_lt h3) (Nat.not_lt.mpr z)
section LR
variable {nL : Nat} {cc : ByteArray} {rm : Room} {X : MX} {cn sn : Nat} {L L' : List (Nat × Value)} {pc pc' : Nat} {st : List Value} {g : GC} {g' : GR} {cJ : ClassId} {qo b Ln : Nat} {xs : Nat → Int32} {S SR : Mem} {o : Nat → Int64}
theorem s_ld (h0 : LX RL cc nL rm X) (hK : KL g g' cJ qo b Ln xs X) {P : Heap → Prop} {i : Int32} (hin : inb i Ln = true) (hdg : decode cc pc = .ok (.iaload, 1)) (e : pc + 1 = pc') (k : LV X (AL X) nL cn sn P L pc' (.int (xs i.toNatClampNeg) :: st)) : LV X (AL X) nL cn sn P L pc (.int i :: .ref b :: st) := by
  obtain ⟨p, l, en, R, s, m, args, below, meth, c, Q⟩ := X
  obtain ⟨hx, hb, -⟩ := h0
  obtain ⟨-, -, -, -, -, -, -, -, -, -, -, -, hX, hbl, -⟩ := hK
  subst e
  intro H locs ls hP hS hl
  exact va_sld hx hb hX hbl (Nat.not_le.mpr hbl) hS (inb_in hin) hdg (k H locs ls hP hS hl)
theorem s_len (h0 : LX RL cc nL rm X) (hK : KL g g' cJ qo b Ln xs X) {P : Heap → Prop} (hdg : decode cc pc = .ok (.arraylength, 1)) (e : pc + 1 = pc') (k : LV X (AL X) nL cn sn P L pc' (.int (Int32.ofNat Ln) :: st)) : LV X (AL X) nL cn sn P L pc (.ref b :: st) := by
  obtain ⟨p, l, en, R, s, m, args, below, meth, c, Q⟩ := X
  obtain ⟨hx, hb, -⟩ := h0
  obtain ⟨-, -, -, -, -, -, -, -, -, -, -, -, hX, hbl, -⟩ := hK
  subst e
  intro H locs ls hP hS hl
  exact va_slen hx hb hX hbl (Nat.not_le.mpr hbl) hS hdg (k H locs ls hP hS hl)
theorem s_out0 (h0 : LX RL cc nL rm X) (hK : KL g g' cJ qo b Ln xs X) {i : Int32} (hi : i.toNatClampNeg = 0) (hin : vp_in i 1) (hdg : decode cc pc = .ok (.laload, 1)) (e : pc + 1 = pc') (k : LV X (AL X) nL cn sn (hL g g' cJ qo S SR o) L pc' (.long (o 0) :: st)) : LV X (AL X) nL cn sn (hL g g' cJ qo S SR o) L pc (.int i :: .ref qo :: st) := by
  obtain ⟨p, l, en, R, s, m, args, below, meth, c, Q⟩ := X
  obtain ⟨hx, hb, -⟩ := h0
  obtain ⟨-, -, hJ, -⟩ := hK
  subst e
  intro H locs ls hP hS hl
  have hc : H[qo]? = some (arrV cJ 1 (fun j => .long (o j))) := hP.2.2
  have hsz : ¬ (i < 0 ∨ (arrV cJ 1 (fun j => Value.long (o j))).slots.size ≤ i.toNatClampNeg) := by rw [arrV_size]; exact hin
  have hrd : (arrV cJ 1 (fun j => Value.long (o j))).slots[i.toNatClampNeg]? = some (.long (o 0)) := by rw [hi]; exact arrV_read cJ (fun j => Value.long (o j)) Nat.zero_lt_one
  exact W.lald (v := .long (o 0)) hx hb hc (hJ 1 (fun j => .long (o j))) (fun q => by cases q) hsz hrd rfl rfl hdg (k H locs ls hP hS hl)
theorem s_out (h0 : LX RL cc nL rm X) (hK : KL g g' cJ qo b Ln xs X) (hdg : decode cc pc = .ok (.laload, 1)) (e : pc + 1 = pc') (k : LV X (AL X) nL cn sn (hL g g' cJ qo S SR o) L pc' (.long (o 0) :: st)) : LV X (AL X) nL cn sn (hL g g' cJ qo S SR o) L pc (.int 0 :: .ref qo :: st) :=
  s_out0 h0 hK (by decide +kernel) (inb_in (by decide +kernel)) hdg e k
theorem l_tab (h0 : LX RL cc nL rm X) {A : Nat → Prop} {P : Heap → Prop} {dflt lo hi : Int} {offs : Array Int} {len : Nat} {x : Int32} (hdg : decode cc pc = .ok (.tableswitch dflt lo hi offs, len)) {tgt : Nat → Nat} {td : Nat} (ho : ∀ n : Nat, lo ≤ lo + n → lo + n ≤ hi → ∃ off, offs[n]? = some off ∧ (pc : Int) + off = (tgt n : Int)) (hd : (pc : Int) + dflt = (td : Int)) (kt : ∀ n : Nat, lo + n ≤ hi → x.toInt = lo + n → LV X A nL cn sn P L (tgt n) st) (kf : LV X A nL cn sn P L td st) : LV X A nL cn sn P L pc (.int x :: st) := by
  obtain ⟨p, l, en, R, s, m, args, below, meth, c, Q⟩ := X
  obtain ⟨hx, hb, -⟩ := h0
  intro H locs ls hP hS hl
  by_cases h1 : x.toInt < lo
  · exact lv_tableOut hx hb hdg (Or.inl h1) hd (kf H locs ls hP hS hl)
  · by_cases h2 : hi < x.toInt
    · exact lv_tableOut hx hb hdg (Or.inr h2) hd (kf H locs ls hP hS hl)
    · obtain ⟨off, e1, e2⟩ := ho (x.toInt - lo).toNat (by omega) (by omega)
      exact lv_tableIn hx hb hdg h1 h2 e1 e2 (kt _ (by omega) (by omega) H locs ls hP hS hl)
theorem l_callM (h0 : LX RL cc nL rm X) (hK : KL g g' cJ qo b Ln xs X) {SR' : Mem} {idx maxL n : Nat} {y : MethodName} {bytes : ByteArray} {ret : Option FieldType} {rc : Room} {ov : Option Value} (hl : Cond.methodLink RL idx y ∈ GW) (hi : Cond.instanceMethod y ∈ GW) (hs : Cond.selects RX8 y y ∈ GW) (hc : Cond.code y bytes maxL ret ∈ GW) (hini : Cond.initialized y.cls ∈ GW) (hd : plainY y n) (As rest : List Value) (hM : ctN y bytes maxL ret rc (wR g') (.ref (wA (wR g') 8 0) :: As) SR ov SR') (hst : st = As.reverse ++ .ref (wA (wR g') 8 0) :: rest) (hn : As.length = n) (hdg : decode cc pc = .ok (.invokevirtual idx, 3)) (e : pc + 3 = pc') (hW : (rest.map fun v => v.category).sum ≤ 8) (hR : rc.cells = 0 ∧ rc.slots = 0 ∧ rc.frames + 1 ≤ rm.frames ∧ 8 + (maxL + 11) + rc.locals ≤ rm.locals) (hcs : cn ≤ rm.cells ∧ sn ≤ rm.slots)
    (kk : LV X (AL X) nL cn sn (hL g g' cJ qo S SR' o) L pc' (ov.toList ++ rest)) : LV X (AL X) nL cn sn (hL g g' cJ qo S SR o) L pc st := by
  have hK' := hK
  obtain ⟨p, l, en, R, s, m, args, below, meth, c, Q⟩ := X
  obtain ⟨k1, k2, kJ, kwC, kwR, koC, koR, kR, -, -, -, -, -, -, hgC, hgR, hgo⟩ := hK'
  exact l_callV (ck := 8) (k := 0) h0 k2 kwR (fun H h => h.2.1) (fun H h hz q hq => by
    rcases hq with ⟨c, k, hk, rfl⟩ | hq
    · exact hgR c k hk
    · exact Nat.le_trans hz hq) (ob_8 g') (show 0 < 1 by decide) hl hi hs hc hini hd As rest hM hst hn hdg e hW hR hcs (l_imp (fun H h => behind_R kR koR h) kk)
theorem l_callG (h0 : LX RL cc nL rm X) (hK : KL g g' cJ qo b Ln xs X) {S' : Mem} {idx maxL n : Nat} {y : MethodName} {bytes : ByteArray} {ret : Option FieldType} {rc : Room} {ov : Option Value} (hl : Cond.methodLink RL idx y ∈ GW) (hi : Cond.instanceMethod y ∈ GW) (hs : Cond.selects RX7 y y ∈ GW) (hc : Cond.code y bytes maxL ret ∈ GW) (hini : Cond.initialized y.cls ∈ GW) (hd : plainY y n) (As rest : List Value) (hM : ctN y bytes maxL ret rc (wC g) (.ref (wA (wC g) 7 0) :: As) S ov S') (hst : st = As.reverse ++ .ref (wA (wC g) 7 0) :: rest) (hn : As.length = n) (hdg : decode cc pc = .ok (.invokevirtual idx, 3)) (e : pc + 3 = pc') (hW : (rest.map fun v => v.category).sum ≤ 8) (hR : rc.cells = 0 ∧ rc.slots = 0 ∧ rc.frames + 1 ≤ rm.frames ∧ 8 + (maxL + 11) + rc.locals ≤ rm.locals) (hcs : cn ≤ rm.cells ∧ sn ≤ rm.slots)
    (kk : LV X (AL X) nL cn sn (hL g g' cJ qo S' SR o) L pc' (ov.toList ++ rest)) : LV X (AL X) nL cn sn (hL g g' cJ qo S SR o) L pc st := by
  have hK' := hK
  obtain ⟨p, l, en, R, s, m, args, below, meth, c, Q⟩ := X
  obtain ⟨k1, k2, kJ, kwC, kwR, koC, koR, kR, -, -, -, -, -, -, hgC, hgR, hgo⟩ := hK'
  exact l_callV (ck := 7) (k := 0) h0 k1 kwC (fun H h => h.1) (fun H h hz q hq => by
    rcases hq with ⟨c, k, hk, rfl⟩ | hq
    · exact hgC c k hk
    · exact Nat.le_trans hz hq) (ob_7 g) (show 0 < 1 by decide) hl hi hs hc hini hd As rest hM hst hn hdg e hW hR hcs (l_imp (fun H h => behind_C kR koC h) kk)
theorem l_callW (h0 : LX RL cc nL rm X) (hK : KL g g' cJ qo b Ln xs X) {S' : Mem} {o' : Nat → Int64} {idx maxL n mc ms : Nat} {y : MethodName} {bytes : ByteArray} {hh : List (Nat × Nat × Nat × Nat)} {rc : Room} {r : Int32} (hl : Cond.methodLink RL idx y ∈ GW) (hs : Cond.static y ∈ GW) (hini : Cond.initialized y.cls ∈ GW) (hc : Cond.codeWith y bytes maxL (some .int) hh ∈ GW) (hd : plainY y n) (As rest : List Value) (hM : ctW y bytes maxL hh rc mc ms g cJ qo As S o r S' o') (hst : st = As.reverse ++ rest) (hn : As.length = n) (hdg : decode cc pc = .ok (.invokestatic idx, 3)) (e : pc + 3 = pc') (hW8 : (rest.map fun v => v.category).sum ≤ 8) (hR : rc.cells = mc ∧ rc.slots = ms ∧ rc.frames + 1 ≤ rm.frames ∧ 8 + (maxL + 11) + rc.locals ≤ rm.locals) (hcs : cn + mc ≤ rm.cells ∧ sn + ms ≤ rm.slots)
    (kk : LV X (AL X) nL (cn + mc) (sn + ms) (hL g g' cJ qo S' SR o') L pc' (.int r :: rest)) : LV X (AL X) nL cn sn (hL g g' cJ qo S SR o) L pc st := by
  obtain ⟨p, l, en, R, s, m, args, below, meth, c, Q⟩ := X
  obtain ⟨hx, hb, hml, hown, hts, hN, hlk, rfl⟩ := h0
  obtain ⟨k1, k2, kJ, kwC, kwR, koC, koR, kR, hstt, hT0, hZ, hC, -, -, hgC, hgR, hgo⟩ := hK
  subst hst; subst e
  intro H locs ls hP hS hls
  have hsubL : ∀ q, AW g qo H.size q → s.heap.size ≤ q := fun q h => by
    rcases h with (⟨c, k, hk, rfl⟩ | h) | rfl
    · exact hgC c k hk
    · exact Nat.le_trans hS.1 h
    · exact hgo
  have hpre : ∀ U : State, U.heap = H → s.WarmedH U.vm → PWx g cJ qo As S o H.size As.toArray U := fun U hU hW => ⟨rfl, by rw [hU], by rw [hU]; exact ⟨hP.1, hP.2.2⟩, va_K.moved hW.alike k1, arrOfT_moved hW.alike kJ, kwC, koC, nw_warm hW hN, ext_warm hW hT0, by rw [hU]; exact exz_narrow (exz_moved hW.alike (exz_kept hZ hS.2.1)) hsubL, nc_moved hW.alike hC⟩
  intro T hT X
  rcases vx_runSX (As := As) (rest := rest) ⟨hx, hb, hml, hown, hts⟩ (hM l H.size hstt) (vx_cwSW n hts (goodS hl hs hini hc) rfl hR.1 hR.2.1 hd ⟨hR.2.2.1, hR.2.2.2⟩) ⟨pw_blind, hpre⟩ (g := F0 m pc ls (As.reverse ++ rest)) rfl hn hls.1 rfl (lv_room hW8) hdg ⟨hcs.1, hcs.2⟩ T hT X with ⟨v, st₀, t', T', Lo, h0, X', hL, e1, e2, ⟨⟨ht, hv, hb1⟩, hF⟩, stp⟩ | ⟨q, st₀, t', T', Lo, E, ce, h0, X', hL, e1, e2, hF, hr⟩
  · cases hv
    obtain ⟨k1', k2', k3'⟩ := vx_keep h0 e1 hS (fun q _ h => hsubL q h) (fun q h => hsubL q h) hL hF
    have hR' : hp (wR g') SR T'.heap := hp_frame hP.2.1 k2' (fun c k hk hlt z => by
      rcases z with (⟨c', k', hk', e⟩ | z) | z
      · exact kR c' k' c k hk' hk e.symm
      · exact absurd hlt (Nat.not_lt.mpr z)
      · exact koR c k hk z)
    obtain ⟨t2, a1, b1⟩ := kk T'.heap (locs ++ Lo) ls ⟨by rw [e1]; exact hb1.1, hR', by rw [e1]; exact hb1.2⟩ k3' hls T' rfl X'
    exact ⟨t2, stp t2 a1, b1⟩
  · exact hF.elim
end LR
theorem hc1_zero {α : Type} {a : Nat} {z : Nat ⊕ α} (h : hc1 a z = some 0) : ∃ v, z = .inr v := by
  cases z with
  | inr v => exact ⟨v, rfl⟩
  | inl E => exact absurd (hc1_cases h).2 (by decide)
theorem hc2_zero {α : Type} {a b : Nat} {z : Nat ⊕ α} (h : hc2 a b z = some 0) : ∃ v, z = .inr v := by
  cases z with
  | inr v => exact ⟨v, rfl⟩
  | inl E => rcases hc2_cases h with h | h <;> exact absurd h.2 (by decide)
theorem hc3_zero {α : Type} {a b c : Nat} {z : Nat ⊕ α} (h : hc3 a b c z = some 0) : ∃ v, z = .inr v := by
  cases z with
  | inr v => exact ⟨v, rfl⟩
  | inl E => rcases hc3_cases h with h | h | h <;> exact absurd h.2 (by decide)
