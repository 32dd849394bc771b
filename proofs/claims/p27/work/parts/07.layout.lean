/-! THE LAYOUT: what the objects and arrays of one class instance are: by kind and number. Written by program (wip/p27/gen). -/
abbrev GC : Type := va_G × ClassId × ClassId × (Nat → Nat → Nat)
abbrev clC : List vw_C := [(RX0, TX0, 5), (RX1, TX1, 3), (RX2, TX2, 2), (RX3, TX3, 17), (RX4, TX4, 4), (RX5, TX5, 2), (RX6, TX6, 6), (RX7, TX7, 3)]
def cellC (cI cO : ClassId) (ad : Nat → Nat → Nat) (f : Nat → Int32) (h : Nat → Int64) (c k : Nat) : va_E := match c with
  | 0 => .inr (0, [.ref (ad 1 0), .ref (ad 2 0), .ref (ad 2 1), .ref (ad 2 2), .ref (ad 2 3)])
  | 1 => .inr (1, [.ref (ad 10 0), .int (f 1), .int (f 2)])
  | 2 => .inr (2, [.ref (ad 5 (2 * k)), .ref (ad 5 (2 * k + 1))])
  | 3 => .inr (3, [.ref (ad 11 k), .ref (ad 12 k), .ref (ad 13 k), .ref (ad 14 k), .ref (ad 15 k), .ref (ad 16 k), .ref (ad 4 k), .int (f 7), .int (f 8), .int (f 9), .int (f 10), .int (f 11), .int (f 12), .int (f 13), .int (f 14), .int (f 15), .int (f 16)])
  | 4 => .inr (4, [.ref (ad 17 k), .int (f 1), .int (f 2), .int (f 3)])
  | 5 => .inr (5, [.long (h 0), .long (h 1)])
  | 6 => .inr (6, [.ref (ad 1 0), .int (f 1), .int (f 2), .int (f 3), .int (f 4), .int (f 5)])
  | 7 => .inr (7, [.ref (ad 1 0), .ref (ad 0 0), .ref (ad 6 0)])
  | 10 => .inl (cO, 5, .inr (.inr (.inr (.inr (fun j => some (ad 3 j))))))
  | 11 => .inl (cI, 16, .inl f)
  | 12 => .inl (cI, 4, .inl f)
  | 13 => .inl (cI, 4, .inl f)
  | 14 => .inl (cI, 4, .inl f)
  | 15 => .inl (cI, 4, .inl f)
  | 16 => .inl (cI, 90, .inl f)
  | 17 => .inl (cI, 61, .inl f)
  | _ => .inr (0, [])
def NC (c : Nat) : Nat := match c with
  | 0 => 1
  | 1 => 1
  | 2 => 4
  | 3 => 5
  | 4 => 5
  | 5 => 8
  | 6 => 1
  | 7 => 1
  | 10 => 1
  | 11 => 5
  | 12 => 5
  | 13 => 5
  | 14 => 5
  | 15 => 5
  | 16 => 5
  | 17 => 5
  | _ => 0
def wC (g : GC) : WX := (g.1, clC, [(g.2.1, .int), (g.2.2.1, .object "Greenwave$Junction")], cellC g.2.1 g.2.2.1 g.2.2.2, NC, g.2.2.2)
def isIA (w : WX) (ck len : Nat) : Prop := ∃ cA : ClassId, (wTy w)[0]? = some (cA, .int) ∧ ∀ (f : Nat → Int32) (h : Nat → Int64) (k : Nat), wCe w f h ck k = .inl (cA, len, .inl f)
def isZA (w : WX) (ck len : Nat) : Prop := ∃ cA : ClassId, (wTy w)[1]? = some (cA, .boolean) ∧ ∀ (f : Nat → Int32) (h : Nat → Int64) (k : Nat), wCe w f h ck k = .inl (cA, len, .inl f)
theorem ia_11 (g : GC) : isIA (wC g) 11 16 := ⟨g.2.1, rfl, fun _ _ _ => rfl⟩
theorem ia_12 (g : GC) : isIA (wC g) 12 4 := ⟨g.2.1, rfl, fun _ _ _ => rfl⟩
theorem ia_13 (g : GC) : isIA (wC g) 13 4 := ⟨g.2.1, rfl, fun _ _ _ => rfl⟩
theorem ia_14 (g : GC) : isIA (wC g) 14 4 := ⟨g.2.1, rfl, fun _ _ _ => rfl⟩
theorem ia_15 (g : GC) : isIA (wC g) 15 4 := ⟨g.2.1, rfl, fun _ _ _ => rfl⟩
theorem ia_16 (g : GC) : isIA (wC g) 16 90 := ⟨g.2.1, rfl, fun _ _ _ => rfl⟩
theorem ia_17 (g : GC) : isIA (wC g) 17 61 := ⟨g.2.1, rfl, fun _ _ _ => rfl⟩
theorem ob_0 (g : GC) : isObj (wC g) RX0 0 := ⟨0, TX0, 5, rfl, fun _ _ _ => ⟨_, rfl⟩⟩
theorem ob_1 (g : GC) : isObj (wC g) RX1 1 := ⟨1, TX1, 3, rfl, fun _ _ _ => ⟨_, rfl⟩⟩
theorem ob_2 (g : GC) : isObj (wC g) RX2 2 := ⟨2, TX2, 2, rfl, fun _ _ _ => ⟨_, rfl⟩⟩
theorem ob_3 (g : GC) : isObj (wC g) RX3 3 := ⟨3, TX3, 17, rfl, fun _ _ _ => ⟨_, rfl⟩⟩
theorem ob_4 (g : GC) : isObj (wC g) RX4 4 := ⟨4, TX4, 4, rfl, fun _ _ _ => ⟨_, rfl⟩⟩
theorem ob_5 (g : GC) : isObj (wC g) RX5 5 := ⟨5, TX5, 2, rfl, fun _ _ _ => ⟨_, rfl⟩⟩
theorem ob_6 (g : GC) : isObj (wC g) RX6 6 := ⟨6, TX6, 6, rfl, fun _ _ _ => ⟨_, rfl⟩⟩
theorem ob_7 (g : GC) : isObj (wC g) RX7 7 := ⟨7, TX7, 3, rfl, fun _ _ _ => ⟨_, rfl⟩⟩
theorem inX0_0 : u_lay RX0 TX0 0 ∈ GW := gw_of (i := 210) (by decide +kernel) (by decide +kernel)
theorem inX0_1 : u_lay RX0 TX0 1 ∈ GW := gw_of (i := 212) (by decide +kernel) (by decide +kernel)
theorem inX0_2 : u_lay RX0 TX0 2 ∈ GW := gw_of (i := 214) (by decide +kernel) (by decide +kernel)
theorem inX0_3 : u_lay RX0 TX0 3 ∈ GW := gw_of (i := 216) (by decide +kernel) (by decide +kernel)
theorem inX0_4 : u_lay RX0 TX0 4 ∈ GW := gw_of (i := 218) (by decide +kernel) (by decide +kernel)
theorem inX0 : ∀ t ∈ u_ws RX0 TX0 5, t ∈ GW := by
  intro t ht
  obtain ⟨j, hj, rfl⟩ := List.mem_map.mp ht
  have hj := List.mem_range.mp hj
  match j, hj with
  | 0, _ => exact inX0_0
  | 1, _ => exact inX0_1
  | 2, _ => exact inX0_2
  | 3, _ => exact inX0_3
  | 4, _ => exact inX0_4
  | j + 5, h => exact absurd h (by omega)
theorem inX1_0 : u_lay RX1 TX1 0 ∈ GW := gw_of (i := 164) (by decide +kernel) (by decide +kernel)
theorem inX1_1 : u_lay RX1 TX1 1 ∈ GW := gw_of (i := 166) (by decide +kernel) (by decide +kernel)
theorem inX1_2 : u_lay RX1 TX1 2 ∈ GW := gw_of (i := 168) (by decide +kernel) (by decide +kernel)
theorem inX1 : ∀ t ∈ u_ws RX1 TX1 3, t ∈ GW := by
  intro t ht
  obtain ⟨j, hj, rfl⟩ := List.mem_map.mp ht
  have hj := List.mem_range.mp hj
  match j, hj with
  | 0, _ => exact inX1_0
  | 1, _ => exact inX1_1
  | 2, _ => exact inX1_2
  | j + 3, h => exact absurd h (by omega)
theorem inX2_0 : u_lay RX2 TX2 0 ∈ GW := gw_of (i := 200) (by decide +kernel) (by decide +kernel)
theorem inX2_1 : u_lay RX2 TX2 1 ∈ GW := gw_of (i := 202) (by decide +kernel) (by decide +kernel)
theorem inX2 : ∀ t ∈ u_ws RX2 TX2 2, t ∈ GW := by
  intro t ht
  obtain ⟨j, hj, rfl⟩ := List.mem_map.mp ht
  have hj := List.mem_range.mp hj
  match j, hj with
  | 0, _ => exact inX2_0
  | 1, _ => exact inX2_1
  | j + 2, h => exact absurd h (by omega)
theorem inX3_0 : u_lay RX3 TX3 0 ∈ GW := gw_of (i := 121) (by decide +kernel) (by decide +kernel)
theorem inX3_1 : u_lay RX3 TX3 1 ∈ GW := gw_of (i := 123) (by decide +kernel) (by decide +kernel)
theorem inX3_2 : u_lay RX3 TX3 2 ∈ GW := gw_of (i := 125) (by decide +kernel) (by decide +kernel)
theorem inX3_3 : u_lay RX3 TX3 3 ∈ GW := gw_of (i := 127) (by decide +kernel) (by decide +kernel)
theorem inX3_4 : u_lay RX3 TX3 4 ∈ GW := gw_of (i := 129) (by decide +kernel) (by decide +kernel)
theorem inX3_5 : u_lay RX3 TX3 5 ∈ GW := gw_of (i := 131) (by decide +kernel) (by decide +kernel)
theorem inX3_6 : u_lay RX3 TX3 6 ∈ GW := gw_of (i := 133) (by decide +kernel) (by decide +kernel)
theorem inX3_7 : u_lay RX3 TX3 7 ∈ GW := gw_of (i := 135) (by decide +kernel) (by decide +kernel)
theorem inX3_8 : u_lay RX3 TX3 8 ∈ GW := gw_of (i := 137) (by decide +kernel) (by decide +kernel)
theorem inX3_9 : u_lay RX3 TX3 9 ∈ GW := gw_of (i := 139) (by decide +kernel) (by decide +kernel)
theorem inX3_10 : u_lay RX3 TX3 10 ∈ GW := gw_of (i := 141) (by decide +kernel) (by decide +kernel)
theorem inX3_11 : u_lay RX3 TX3 11 ∈ GW := gw_of (i := 143) (by decide +kernel) (by decide +kernel)
theorem inX3_12 : u_lay RX3 TX3 12 ∈ GW := gw_of (i := 145) (by decide +kernel) (by decide +kernel)
theorem inX3_13 : u_lay RX3 TX3 13 ∈ GW := gw_of (i := 147) (by decide +kernel) (by decide +kernel)
theorem inX3_14 : u_lay RX3 TX3 14 ∈ GW := gw_of (i := 149) (by decide +kernel) (by decide +kernel)
theorem inX3_15 : u_lay RX3 TX3 15 ∈ GW := gw_of (i := 151) (by decide +kernel) (by decide +kernel)
theorem inX3_16 : u_lay RX3 TX3 16 ∈ GW := gw_of (i := 153) (by decide +kernel) (by decide +kernel)
theorem inX3 : ∀ t ∈ u_ws RX3 TX3 17, t ∈ GW := by
  intro t ht
  obtain ⟨j, hj, rfl⟩ := List.mem_map.mp ht
  have hj := List.mem_range.mp hj
  match j, hj with
  | 0, _ => exact inX3_0
  | 1, _ => exact inX3_1
  | 2, _ => exact inX3_2
  | 3, _ => exact inX3_3
  | 4, _ => exact inX3_4
  | 5, _ => exact inX3_5
  | 6, _ => exact inX3_6
  | 7, _ => exact inX3_7
  | 8, _ => exact inX3_8
  | 9, _ => exact inX3_9
  | 10, _ => exact inX3_10
  | 11, _ => exact inX3_11
  | 12, _ => exact inX3_12
  | 13, _ => exact inX3_13
  | 14, _ => exact inX3_14
  | 15, _ => exact inX3_15
  | 16, _ => exact inX3_16
  | j + 17, h => exact absurd h (by omega)
theorem inX4_0 : u_lay RX4 TX4 0 ∈ GW := gw_of (i := 81) (by decide +kernel) (by decide +kernel)
theorem inX4_1 : u_lay RX4 TX4 1 ∈ GW := gw_of (i := 83) (by decide +kernel) (by decide +kernel)
theorem inX4_2 : u_lay RX4 TX4 2 ∈ GW := gw_of (i := 85) (by decide +kernel) (by decide +kernel)
theorem inX4_3 : u_lay RX4 TX4 3 ∈ GW := gw_of (i := 87) (by decide +kernel) (by decide +kernel)
theorem inX4 : ∀ t ∈ u_ws RX4 TX4 4, t ∈ GW := by
  intro t ht
  obtain ⟨j, hj, rfl⟩ := List.mem_map.mp ht
  have hj := List.mem_range.mp hj
  match j, hj with
  | 0, _ => exact inX4_0
  | 1, _ => exact inX4_1
  | 2, _ => exact inX4_2
  | 3, _ => exact inX4_3
  | j + 4, h => exact absurd h (by omega)
theorem inX5_0 : u_lay RX5 TX5 0 ∈ GW := gw_of (i := 191) (by decide +kernel) (by decide +kernel)
theorem inX5_1 : u_lay RX5 TX5 1 ∈ GW := gw_of (i := 193) (by decide +kernel) (by decide +kernel)
theorem inX5 : ∀ t ∈ u_ws RX5 TX5 2, t ∈ GW := by
  intro t ht
  obtain ⟨j, hj, rfl⟩ := List.mem_map.mp ht
  have hj := List.mem_range.mp hj
  match j, hj with
  | 0, _ => exact inX5_0
  | 1, _ => exact inX5_1
  | j + 2, h => exact absurd h (by omega)
theorem inX6_0 : u_lay RX6 TX6 0 ∈ GW := gw_of (i := 237) (by decide +kernel) (by decide +kernel)
theorem inX6_1 : u_lay RX6 TX6 1 ∈ GW := gw_of (i := 239) (by decide +kernel) (by decide +kernel)
theorem inX6_2 : u_lay RX6 TX6 2 ∈ GW := gw_of (i := 241) (by decide +kernel) (by decide +kernel)
theorem inX6_3 : u_lay RX6 TX6 3 ∈ GW := gw_of (i := 243) (by decide +kernel) (by decide +kernel)
theorem inX6_4 : u_lay RX6 TX6 4 ∈ GW := gw_of (i := 245) (by decide +kernel) (by decide +kernel)
theorem inX6_5 : u_lay RX6 TX6 5 ∈ GW := gw_of (i := 247) (by decide +kernel) (by decide +kernel)
theorem inX6 : ∀ t ∈ u_ws RX6 TX6 6, t ∈ GW := by
  intro t ht
  obtain ⟨j, hj, rfl⟩ := List.mem_map.mp ht
  have hj := List.mem_range.mp hj
  match j, hj with
  | 0, _ => exact inX6_0
  | 1, _ => exact inX6_1
  | 2, _ => exact inX6_2
  | 3, _ => exact inX6_3
  | 4, _ => exact inX6_4
  | 5, _ => exact inX6_5
  | j + 6, h => exact absurd h (by omega)
theorem inX7_0 : u_lay RX7 TX7 0 ∈ GW := gw_of (i := 392) (by decide +kernel) (by decide +kernel)
theorem inX7_1 : u_lay RX7 TX7 1 ∈ GW := gw_of (i := 394) (by decide +kernel) (by decide +kernel)
theorem inX7_2 : u_lay RX7 TX7 2 ∈ GW := gw_of (i := 396) (by decide +kernel) (by decide +kernel)
theorem inX7 : ∀ t ∈ u_ws RX7 TX7 3, t ∈ GW := by
  intro t ht
  obtain ⟨j, hj, rfl⟩ := List.mem_map.mp ht
  have hj := List.mem_range.mp hj
  match j, hj with
  | 0, _ => exact inX7_0
  | 1, _ => exact inX7_1
  | 2, _ => exact inX7_2
  | j + 3, h => exact absurd h (by omega)
theorem nbz {v : Int32} (h : nb v = v) : narrow .boolean (.int v) = .int v := congrArg Value.int h
theorem nb01 (v : Int32) : nb v = 0 ∨ nb v = 1 := by
  obtain ⟨j, hj, e⟩ := pk_andE v (m := 1) 1 (by decide)
  have h : j = 0 ∨ j = 1 := by omega
  rcases h with h | h
  · subst h; exact Or.inl e
  · subst h; exact Or.inr e
theorem nbf {v : Int32} (h : nb v = v) : fits .boolean (.int v) = true := by
  rcases nb01 v with e | e
  · rw [h] at e; subst e; rfl
  · rw [h] at e; subst e; rfl
theorem inb_lt {i : Int32} {n : Nat} (h : inb i n = true) : i.toNatClampNeg < n := Nat.not_le.mp fun q => inb_in h (Or.inr q)
section RAA
variable {own : String} {cc : ByteArray} {nL : Nat} {rm : Room} {X : MX} {w : WX} {cn sn : Nat} {S : Mem} {L : List (Nat × Value)} {pc pc' : Nat} {st : List Value} {α : Type} {A : Option α} {z : α} {ck k n : Nat}
theorem r_alenA (h0 : CX own cc nL rm X w) (ha : isIA w ck n) (hk : k < wN w ck) (hdg : decode cc pc = .ok (.arraylength, 1)) (e : pc + 1 = pc') (kk : GV X w nL cn sn S L pc' (.int (nI n) :: st)) : GV X w nL cn sn S L pc (.ref (wA w ck k) :: st) := by
  obtain ⟨cA, h1, h2⟩ := ha
  exact r_alen h0 0 hk (h2 _ _ _) h1 rfl hdg e kk
theorem r_ialdA (h0 : CX own cc nL rm X w) (ha : isIA w ck n) (hk : k < wN w ck) {i : Int32} (hdg : decode cc pc = .ok (.iaload, 1)) (e : pc + 1 = pc') (h : gd (inb i n) A = some z) (kk : A = some z → GV X w nL cn sn S L pc' (.int (S.1 ck k i.toNatClampNeg) :: st)) : GV X w nL cn sn S L pc (.int i :: .ref (wA w ck k) :: st) := by
  obtain ⟨cA, h1, h2⟩ := ha
  exact r_iald h0 0 hk (h2 _ _ _) h1 hdg e h kk
theorem r_zaldA (h0 : CX own cc nL rm X w) (ha : isZA w ck n) (hk : k < wN w ck) {i : Int32} (hdg : decode cc pc = .ok (.baload, 1)) (e : pc + 1 = pc') (h : gd (inb i n) A = some z) (kk : A = some z → GV X w nL cn sn S L pc' (.int (S.1 ck k i.toNatClampNeg) :: st)) : GV X w nL cn sn S L pc (.int i :: .ref (wA w ck k) :: st) := by
  obtain ⟨cA, h1, h2⟩ := ha
  exact r_zald h0 1 hk (h2 _ _ _) h1 hdg e h kk
theorem r_iastA (h0 : CX own cc nL rm X w) (ha : isIA w ck n) (hk : k < wN w ck) {i x : Int32} (hdg : decode cc pc = .ok (.iastore, 1)) (e : pc + 1 = pc') (h : gd (inb i n) A = some z) (kk : A = some z → GV X w nL cn sn (wI S ck k i.toNatClampNeg x) L pc' st) : GV X w nL cn sn S L pc (.int x :: .int i :: .ref (wA w ck k) :: st) := by
  obtain ⟨cA, h1, h2⟩ := ha
  exact r_iast h0 0 hk (fun f g => h2 f g k) h1 hdg e h kk
theorem r_zastA (h0 : CX own cc nL rm X w) (ha : isZA w ck n) (hk : k < wN w ck) {i x : Int32} (hdg : decode cc pc = .ok (.bastore, 1)) (e : pc + 1 = pc') (h : gd (inb i n) A = some z) (kk : A = some z → GV X w nL cn sn (wI S ck k i.toNatClampNeg (nb x)) L pc' st) : GV X w nL cn sn S L pc (.int x :: .int i :: .ref (wA w ck k) :: st) := by
  obtain ⟨cA, h1, h2⟩ := ha
  exact r_zast h0 1 hk (fun f g => h2 f g k) h1 hdg e h kk
end RAA
theorem kb_8 : (Int8.ofInt (8)).toInt32 = (8 : Int32) := by decide
theorem kb_10 : (Int8.ofInt (10)).toInt32 = (10 : Int32) := by decide
theorem kb_12 : (Int8.ofInt (12)).toInt32 = (12 : Int32) := by decide
theorem kb_16 : (Int8.ofInt (16)).toInt32 = (16 : Int32) := by decide
theorem kb_20 : (Int8.ofInt (20)).toInt32 = (20 : Int32) := by decide
theorem kb_32 : (Int8.ofInt (32)).toInt32 = (32 : Int32) := by decide
theorem kb_61 : (Int8.ofInt (61)).toInt32 = (61 : Int32) := by decide
theorem kb_63 : (Int8.ofInt (63)).toInt32 = (63 : Int32) := by decide
theorem kb_64 : (Int8.ofInt (64)).toInt32 = (64 : Int32) := by decide
theorem kb_127 : (Int8.ofInt (127)).toInt32 = (127 : Int32) := by decide
theorem ki_m1 : Int32.ofInt (-1) = (-1 : Int32) := by decide
theorem ki_0 : Int32.ofInt (0) = (0 : Int32) := by decide
theorem ki_1 : Int32.ofInt (1) = (1 : Int32) := by decide
theorem ki_2 : Int32.ofInt (2) = (2 : Int32) := by decide
theorem ki_3 : Int32.ofInt (3) = (3 : Int32) := by decide
theorem ki_4 : Int32.ofInt (4) = (4 : Int32) := by decide
theorem ki_5 : Int32.ofInt (5) = (5 : Int32) := by decide
theorem ks_3600 : (Int16.ofInt (3600)).toInt32 = (3600 : Int32) := by decide
