/-! THE LAYOUT: what the objects and arrays of one class instance, and of one model, are: by kind and number. Written by program (wip/whole/gen). -/
abbrev GC : Type := va_G × ClassId × ClassId × (Nat → Nat → Nat)
abbrev clC : List vw_C := [(RX0, TX0, 5), (RX1, TX1, 3), (RX2, TX2, 2), (RX3, TX3, 17), (RX4, TX4, 4), (RX5, TX5, 2), (RX6, TX6, 6), (RX7, TX7, 3)]
def cellC (cI cO : ClassId) (ad : Nat → Nat → Nat) (f : Nat → Int32) (h : Nat → Int64) (c k : Nat) : va_E := match c with
  | 0 => .inr (0, [.ref (ad 1 0), .ref (ad 2 0), .ref (ad 2 1), .ref (ad 2 2), .ref (ad 2 3)])
  | 1 => .inr (1, [.ref (ad 10 0), .int (f 1), .int (f 2)])
  | 2 => .inr (2, [.ref (ad 5 (2 * k)), .ref (ad 5 (2 * k + 1))])
  | 3 => .inr (3, [.ref (ad 11 k), .ref (ad 12 k), .ref (ad 13 k), .ref (ad 14 k), .ref (ad 15 k), .ref (ad 16 k), .ref (ad 4 k), .int (f 7), .int (f 8), .int (f 9), .int (f 10), .int (f 11), .int (f 12), .int (f 13), .int (f 14), .int (f 15), .int (f 16)])
  | 4 => .inr (4, [.ref (ad 17 k), .int (f 1), .int (f 2), .int (f 3)])
  | 5 => .inr (5, [.long (h 0), .long (h 1)])
  | 6 => .inr (6, [.ref (ad 1 0), .int (f 1), .int (f 2), .int (f 3), .int (f 4), .int (f 5)])
  | 7 => .inr (7, [.ref (ad 1 0), .ref (ad 0 0), .ref (ad 6 0)])
  | 10 => .inl (cO, 5, .inr (.inr (.inr (.inr (fun j => some (ad 3 j))))))
  | 11 => .inl (cI, 16, .inl f)
  | 12 => .inl (cI, 4, .inl f)
  | 13 => .inl (cI, 4, .inl f)
  | 14 => .inl (cI, 4, .inl f)
  | 15 => .inl (cI, 4, .inl f)
  | 16 => .inl (cI, 90, .inl f)
  | 17 => .inl (cI, 61, .inl f)
  | _ => .inr (0, [])
def NC (c : Nat) : Nat := match c with
  | 0 => 1
  | 1 => 1
  | 2 => 4
  | 3 => 5
  | 4 => 5
  | 5 => 8
  | 6 => 1
  | 7 => 1
  | 10 => 1
  | 11 => 5
  | 12 => 5
  | 13 => 5
  | 14 => 5
  | 15 => 5
  | 16 => 5
  | 17 => 5
  | _ => 0
def wC (g : GC) : WX := (g.1, clC, [(g.2.1, .int), (g.2.2.1, .object "Greenwave$Junction")], cellC g.2.1 g.2.2.1 g.2.2.2, NC, g.2.2.2)
abbrev GR : Type := va_G × ClassId × ClassId × (Nat → Nat → Nat)
abbrev clR : List vw_C := [(RX8, TX8, 27)]
def cellR (cI cZ : ClassId) (ad : Nat → Nat → Nat) (f : Nat → Int32) (_ : Nat → Int64) (c _ : Nat) : va_E := match c with
  | 8 => .inr (0, [.int (f 0), .int (f 1), .int (f 2), .int (f 3), .ref (ad 20 0), .ref (ad 21 0), .ref (ad 22 0), .ref (ad 23 0), .ref (ad 24 0), .ref (ad 25 0), .ref (ad 26 0), .ref (ad 27 0), .ref (ad 28 0), .ref (ad 29 0), .int (f 14), .int (f 15), .int (f 16), .int (f 17), .ref (ad 30 0), .ref (ad 31 0), .ref (ad 32 0), .ref (ad 33 0), .ref (ad 34 0), .ref (ad 35 0), .ref (ad 36 0), .ref (ad 37 0), .ref (ad 38 0)])
  | 20 => .inl (cI, 80, .inl f)
  | 21 => .inl (cI, 20, .inl f)
  | 22 => .inl (cI, 5, .inl f)
  | 23 => .inl (cI, 20, .inl f)
  | 24 => .inl (cI, 5, .inl f)
  | 25 => .inl (cI, 4, .inl f)
  | 26 => .inl (cI, 4, .inl f)
  | 27 => .inl (cI, 20, .inl f)
  | 28 => .inl (cI, 20, .inl f)
  | 29 => .inl (cZ, 5, .inl f)
  | 30 => .inl (cI, 5, .inl f)
  | 31 => .inl (cI, 5, .inl f)
  | 32 => .inl (cI, 4, .inl f)
  | 33 => .inl (cI, 160, .inl f)
  | 34 => .inl (cZ, 5, .inl f)
  | 35 => .inl (cI, 5, .inl f)
  | 36 => .inl (cI, 5, .inl f)
  | 37 => .inl (cI, 5, .inl f)
  | 38 => .inl (cI, 5, .inl f)
  | _ => .inr (0, [])
def NR (c : Nat) : Nat := match c with
  | 8 => 1
  | 20 => 1
  | 21 => 1
  | 22 => 1
  | 23 => 1
  | 24 => 1
  | 25 => 1
  | 26 => 1
  | 27 => 1
  | 28 => 1
  | 29 => 1
  | 30 => 1
  | 31 => 1
  | 32 => 1
  | 33 => 1
  | 34 => 1
  | 35 => 1
  | 36 => 1
  | 37 => 1
  | 38 => 1
  | _ => 0
def wR (g : GR) : WX := (g.1, clR, [(g.2.1, .int), (g.2.2.1, .boolean)], cellR g.2.1 g.2.2.1 g.2.2.2, NR, g.2.2.2)
def isIA (w : WX) (ck len : Nat) : Prop := ∃ cA : ClassId, (wTy w)[0]? = some (cA, .int) ∧ ∀ (f : Nat → Int32) (h : Nat → Int64) (k : Nat), wCe w f h ck k = .inl (cA, len, .inl f)
def isZA (w : WX) (ck len : Nat) : Prop := ∃ cA : ClassId, (wTy w)[1]? = some (cA, .boolean) ∧ ∀ (f : Nat → Int32) (h : Nat → Int64) (k : Nat), wCe w f h ck k = .inl (cA, len, .inl f)
theorem ia_11 (g : GC) : isIA (wC g) 11 16 := ⟨g.2.1, rfl, fun _ _ _ => rfl⟩
theorem ia_12 (g : GC) : isIA (wC g) 12 4 := ⟨g.2.1, rfl, fun _ _ _ => rfl⟩
theorem ia_13 (g : GC) : isIA (wC g) 13 4 := ⟨g.2.1, rfl, fun _ _ _ => rfl⟩
theorem ia_14 (g : GC) : isIA (wC g) 14 4 := ⟨g.2.1, rfl, fun _ _ _ => rfl⟩
theorem ia_15 (g : GC) : isIA (wC g) 15 4 := ⟨g.2.1, rfl, fun _ _ _ => rfl⟩
theorem ia_16 (g : GC) : isIA (wC g) 16 90 := ⟨g.2.1, rfl, fun _ _ _ => rfl⟩
theorem ia_17 (g : GC) : isIA (wC g) 17 61 := ⟨g.2.1, rfl, fun _ _ _ => rfl⟩
theorem ia_20 (g : GR) : isIA (wR g) 20 80 := ⟨g.2.1, rfl, fun _ _ _ => rfl⟩
theorem ia_21 (g : GR) : isIA (wR g) 21 20 := ⟨g.2.1, rfl, fun _ _ _ => rfl⟩
theorem ia_22 (g : GR) : isIA (wR g) 22 5 := ⟨g.2.1, rfl, fun _ _ _ => rfl⟩
theorem ia_23 (g : GR) : isIA (wR g) 23 20 := ⟨g.2.1, rfl, fun _ _ _ => rfl⟩
theorem ia_24 (g : GR) : isIA (wR g) 24 5 := ⟨g.2.1, rfl, fun _ _ _ => rfl⟩
theorem ia_25 (g : GR) : isIA (wR g) 25 4 := ⟨g.2.1, rfl, fun _ _ _ => rfl⟩
theorem ia_26 (g : GR) : isIA (wR g) 26 4 := ⟨g.2.1, rfl, fun _ _ _ => rfl⟩
theorem ia_27 (g : GR) : isIA (wR g) 27 20 := ⟨g.2.1, rfl, fun _ _ _ => rfl⟩
theorem ia_28 (g : GR) : isIA (wR g) 28 20 := ⟨g.2.1, rfl, fun _ _ _ => rfl⟩
theorem iz_29 (g : GR) : isZA (wR g) 29 5 := ⟨g.2.2.1, rfl, fun _ _ _ => rfl⟩
theorem ia_30 (g : GR) : isIA (wR g) 30 5 := ⟨g.2.1, rfl, fun _ _ _ => rfl⟩
theorem ia_31 (g : GR) : isIA (wR g) 31 5 := ⟨g.2.1, rfl, fun _ _ _ => rfl⟩
theorem ia_32 (g : GR) : isIA (wR g) 32 4 := ⟨g.2.1, rfl, fun _ _ _ => rfl⟩
theorem ia_33 (g : GR) : isIA (wR g) 33 160 := ⟨g.2.1, rfl, fun _ _ _ => rfl⟩
theorem iz_34 (g : GR) : isZA (wR g) 34 5 := ⟨g.2.2.1, rfl, fun _ _ _ => rfl⟩
theorem ia_35 (g : GR) : isIA (wR g) 35 5 := ⟨g.2.1, rfl, fun _ _ _ => rfl⟩
theorem ia_36 (g : GR) : isIA (wR g) 36 5 := ⟨g.2.1, rfl, fun _ _ _ => rfl⟩
theorem ia_37 (g : GR) : isIA (wR g) 37 5 := ⟨g.2.1, rfl, fun _ _ _ => rfl⟩
theorem ia_38 (g : GR) : isIA (wR g) 38 5 := ⟨g.2.1, rfl, fun _ _ _ => rfl⟩
theorem ob_0 (g : GC) : isObj (wC g) RX0 0 := ⟨0, TX0, 5, rfl, fun _ _ _ => ⟨_, rfl⟩⟩
theorem ob_1 (g : GC) : isObj (wC g) RX1 1 := ⟨1, TX1, 3, rfl, fun _ _ _ => ⟨_, rfl⟩⟩
theorem ob_2 (g : GC) : isObj (wC g) RX2 2 := ⟨2, TX2, 2, rfl, fun _ _ _ => ⟨_, rfl⟩⟩
theorem ob_3 (g : GC) : isObj (wC g) RX3 3 := ⟨3, TX3, 17, rfl, fun _ _ _ => ⟨_, rfl⟩⟩
theorem ob_4 (g : GC) : isObj (wC g) RX4 4 := ⟨4, TX4, 4, rfl, fun _ _ _ => ⟨_, rfl⟩⟩
theorem ob_5 (g : GC) : isObj (wC g) RX5 5 := ⟨5, TX5, 2, rfl, fun _ _ _ => ⟨_, rfl⟩⟩
theorem ob_6 (g : GC) : isObj (wC g) RX6 6 := ⟨6, TX6, 6, rfl, fun _ _ _ => ⟨_, rfl⟩⟩
theorem ob_7 (g : GC) : isObj (wC g) RX7 7 := ⟨7, TX7, 3, rfl, fun _ _ _ => ⟨_, rfl⟩⟩
theorem ob_8 (g : GR) : isObj (wR g) RX8 8 := ⟨0, TX8, 27, rfl, fun _ _ _ => ⟨_, rfl⟩⟩
theorem inX0_0 : u_lay RX0 TX0 0 ∈ GW := gw_of (i := 243) (by decide +kernel) (by decide +kernel)
theorem inX0_1 : u_lay RX0 TX0 1 ∈ GW := gw_of (i := 245) (by decide +kernel) (by decide +kernel)
theorem inX0_2 : u_lay RX0 TX0 2 ∈ GW := gw_of (i := 247) (by decide +kernel) (by decide +kernel)
theorem inX0_3 : u_lay RX0 TX0 3 ∈ GW := gw_of (i := 249) (by decide +kernel) (by decide +kernel)
theorem inX0_4 : u_lay RX0 TX0 4 ∈ GW := gw_of (i := 251) (by decide +kernel) (by decide +kernel)
theorem inX0 : ∀ t ∈ u_ws RX0 TX0 5, t ∈ GW := by
  intro t ht
  obtain ⟨j, hj, rfl⟩ := List.mem_map.mp ht
  have hj := List.mem_range.mp hj
  match j, hj with
  | 0, _ => exact inX0_0
  | 1, _ => exact inX0_1
  | 2, _ => exact inX0_2
  | 3, _ => exact inX0_3
  | 4, _ => exact inX0_4
  | j + 5, h => exact absurd h (by omega)
theorem inX1_0 : u_lay RX1 TX1 0 ∈ GW := gw_of (i := 197) (by decide +kernel) (by decide +kernel)
theorem inX1_1 : u_lay RX1 TX1 1 ∈ GW := gw_of (i := 199) (by decide +kernel) (by decide +kernel)
theorem inX1_2 : u_lay RX1 TX1 2 ∈ GW := gw_of (i := 201) (by decide +kernel) (by decide +kernel)
theorem inX1 : ∀ t ∈ u_ws RX1 TX1 3, t ∈ GW := by
  intro t ht
  obtain ⟨j, hj, rfl⟩ := List.mem_map.mp ht
  have hj := List.mem_range.mp hj
  match j, hj with
  | 0, _ => exact inX1_0
  | 1, _ => exact inX1_1
  | 2, _ => exact inX1_2
  | j + 3, h => exact absurd h (by omega)
theorem inX2_0 : u_lay RX2 TX2 0 ∈ GW := gw_of (i := 233) (by decide +kernel) (by decide +kernel)
theorem inX2_1 : u_lay RX2 TX2 1 ∈ GW := gw_of (i := 235) (by decide +kernel) (by decide +kernel)
theorem inX2 : ∀ t ∈ u_ws RX2 TX2 2, t ∈ GW := by
  intro t ht
  obtain ⟨j, hj, rfl⟩ := List.mem_map.mp ht
  have hj := List.mem_range.mp hj
  match j, hj with
  | 0, _ => exact inX2_0
  | 1, _ => exact inX2_1
  | j + 2, h => exact absurd h (by omega)
theorem inX3_0 : u_lay RX3 TX3 0 ∈ GW := gw_of (i := 154) (by decide +kernel) (by decide +kernel)
theorem inX3_1 : u_lay RX3 TX3 1 ∈ GW := gw_of (i := 156) (by decide +kernel) (by decide +kernel)
theorem inX3_2 : u_lay RX3 TX3 2 ∈ GW := gw_of (i := 158) (by decide +kernel) (by decide +kernel)
theorem inX3_3 : u_lay RX3 TX3 3 ∈ GW := gw_of (i := 160) (by decide +kernel) (by decide +kernel)
theorem inX3_4 : u_lay RX3 TX3 4 ∈ GW := gw_of (i := 162) (by decide +kernel) (by decide +kernel)
theorem inX3_5 : u_lay RX3 TX3 5 ∈ GW := gw_of (i := 164) (by decide +kernel) (by decide +kernel)
theorem inX3_6 : u_lay RX3 TX3 6 ∈ GW := gw_of (i := 166) (by decide +kernel) (by decide +kernel)
theorem inX3_7 : u_lay RX3 TX3 7 ∈ GW := gw_of (i := 168) (by decide +kernel) (by decide +kernel)
theorem inX3_8 : u_lay RX3 TX3 8 ∈ GW := gw_of (i := 170) (by decide +kernel) (by decide +kernel)
theorem inX3_9 : u_lay RX3 TX3 9 ∈ GW := gw_of (i := 172) (by decide +kernel) (by decide +kernel)
theorem inX3_10 : u_lay RX3 TX3 10 ∈ GW := gw_of (i := 174) (by decide +kernel) (by decide +kernel)
theorem inX3_11 : u_lay RX3 TX3 11 ∈ GW := gw_of (i := 176) (by decide +kernel) (by decide +kernel)
theorem inX3_12 : u_lay RX3 TX3 12 ∈ GW := gw_of (i := 178) (by decide +kernel) (by decide +kernel)
theorem inX3_13 : u_lay RX3 TX3 13 ∈ GW := gw_of (i := 180) (by decide +kernel) (by decide +kernel)
theorem inX3_14 : u_lay RX3 TX3 14 ∈ GW := gw_of (i := 182) (by decide +kernel) (by decide +kernel)
theorem inX3_15 : u_lay RX3 TX3 15 ∈ GW := gw_of (i := 184) (by decide +kernel) (by decide +kernel)
theorem inX3_16 : u_lay RX3 TX3 16 ∈ GW := gw_of (i := 186) (by decide +kernel) (by decide +kernel)
theorem inX3 : ∀ t ∈ u_ws RX3 TX3 17, t ∈ GW := by
  intro t ht
  obtain ⟨j, hj, rfl⟩ := List.mem_map.mp ht
  have hj := List.mem_range.mp hj
  match j, hj with
  | 0, _ => exact inX3_0
  | 1, _ => exact inX3_1
  | 2, _ => exact inX3_2
  | 3, _ => exact inX3_3
  | 4, _ => exact inX3_4
  | 5, _ => exact inX3_5
  | 6, _ => exact inX3_6
  | 7, _ => exact inX3_7
  | 8, _ => exact inX3_8
  | 9, _ => exact inX3_9
  | 10, _ => exact inX3_10
  | 11, _ => exact inX3_11
  | 12, _ => exact inX3_12
  | 13, _ => exact inX3_13
  | 14, _ => exact inX3_14
  | 15, _ => exact inX3_15
  | 16, _ => exact inX3_16
  | j + 17, h => exact absurd h (by omega)
theorem inX4_0 : u_lay RX4 TX4 0 ∈ GW := gw_of (i := 114) (by decide +kernel) (by decide +kernel)
theorem inX4_1 : u_lay RX4 TX4 1 ∈ GW := gw_of (i := 116) (by decide +kernel) (by decide +kernel)
theorem inX4_2 : u_lay RX4 TX4 2 ∈ GW := gw_of (i := 118) (by decide +kernel) (by decide +kernel)
theorem inX4_3 : u_lay RX4 TX4 3 ∈ GW := gw_of (i := 120) (by decide +kernel) (by decide +kernel)
theorem inX4 : ∀ t ∈ u_ws RX4 TX4 4, t ∈ GW := by
  intro t ht
  obtain ⟨j, hj, rfl⟩ := List.mem_map.mp ht
  have hj := List.mem_range.mp hj
  match j, hj with
  | 0, _ => exact inX4_0
  | 1, _ => exact inX4_1
  | 2, _ => exact inX4_2
  | 3, _ => exact inX4_3
  | j + 4, h => exact absurd h (by omega)
theorem inX5_0 : u_lay RX5 TX5 0 ∈ GW := gw_of (i := 224) (by decide +kernel) (by decide +kernel)
theorem inX5_1 : u_lay RX5 TX5 1 ∈ GW := gw_of (i := 226) (by decide +kernel) (by decide +kernel)
theorem inX5 : ∀ t ∈ u_ws RX5 TX5 2, t ∈ GW := by
  intro t ht
  obtain ⟨j, hj, rfl⟩ := List.mem_map.mp ht
  have hj := List.mem_range.mp hj
  match j, hj with
  | 0, _ => exact inX5_0
  | 1, _ => exact inX5_1
  | j + 2, h => exact absurd h (by omega)
theorem inX6_0 : u_lay RX6 TX6 0 ∈ GW := gw_of (i := 270) (by decide +kernel) (by decide +kernel)
theorem inX6_1 : u_lay RX6 TX6 1 ∈ GW := gw_of (i := 272) (by decide +kernel) (by decide +kernel)
theorem inX6_2 : u_lay RX6 TX6 2 ∈ GW := gw_of (i := 274) (by decide +kernel) (by decide +kernel)
theorem inX6_3 : u_lay RX6 TX6 3 ∈ GW := gw_of (i := 276) (by decide +kernel) (by decide +kernel)
theorem inX6_4 : u_lay RX6 TX6 4 ∈ GW := gw_of (i := 278) (by decide +kernel) (by decide +kernel)
theorem inX6_5 : u_lay RX6 TX6 5 ∈ GW := gw_of (i := 280) (by decide +kernel) (by decide +kernel)
theorem inX6 : ∀ t ∈ u_ws RX6 TX6 6, t ∈ GW := by
  intro t ht
  obtain ⟨j, hj, rfl⟩ := List.mem_map.mp ht
  have hj := List.mem_range.mp hj
  match j, hj with
  | 0, _ => exact inX6_0
  | 1, _ => exact inX6_1
  | 2, _ => exact inX6_2
  | 3, _ => exact inX6_3
  | 4, _ => exact inX6_4
  | 5, _ => exact inX6_5
  | j + 6, h => exact absurd h (by omega)
theorem inX7_0 : u_lay RX7 TX7 0 ∈ GW := gw_of (i := 425) (by decide +kernel) (by decide +kernel)
theorem inX7_1 : u_lay RX7 TX7 1 ∈ GW := gw_of (i := 427) (by decide +kernel) (by decide +kernel)
theorem inX7_2 : u_lay RX7 TX7 2 ∈ GW := gw_of (i := 429) (by decide +kernel) (by decide +kernel)
theorem inX7 : ∀ t ∈ u_ws RX7 TX7 3, t ∈ GW := by
  intro t ht
  obtain ⟨j, hj, rfl⟩ := List.mem_map.mp ht
  have hj := List.mem_range.mp hj
  match j, hj with
  | 0, _ => exact inX7_0
  | 1, _ => exact inX7_1
  | 2, _ => exact inX7_2
  | j + 3, h => exact absurd h (by omega)
theorem inX8_0 : u_lay RX8 TX8 0 ∈ GW := gw_of (i := 946) (by decide +kernel) (by decide +kernel)
theorem inX8_1 : u_lay RX8 TX8 1 ∈ GW := gw_of (i := 948) (by decide +kernel) (by decide +kernel)
theorem inX8_2 : u_lay RX8 TX8 2 ∈ GW := gw_of (i := 950) (by decide +kernel) (by decide +kernel)
theorem inX8_3 : u_lay RX8 TX8 3 ∈ GW := gw_of (i := 952) (by decide +kernel) (by decide +kernel)
theorem inX8_4 : u_lay RX8 TX8 4 ∈ GW := gw_of (i := 954) (by decide +kernel) (by decide +kernel)
theorem inX8_5 : u_lay RX8 TX8 5 ∈ GW := gw_of (i := 956) (by decide +kernel) (by decide +kernel)
theorem inX8_6 : u_lay RX8 TX8 6 ∈ GW := gw_of (i := 958) (by decide +kernel) (by decide +kernel)
theorem inX8_7 : u_lay RX8 TX8 7 ∈ GW := gw_of (i := 960) (by decide +kernel) (by decide +kernel)
theorem inX8_8 : u_lay RX8 TX8 8 ∈ GW := gw_of (i := 962) (by decide +kernel) (by decide +kernel)
theorem inX8_9 : u_lay RX8 TX8 9 ∈ GW := gw_of (i := 964) (by decide +kernel) (by decide +kernel)
theorem inX8_10 : u_lay RX8 TX8 10 ∈ GW := gw_of (i := 966) (by decide +kernel) (by decide +kernel)
theorem inX8_11 : u_lay RX8 TX8 11 ∈ GW := gw_of (i := 968) (by decide +kernel) (by decide +kernel)
theorem inX8_12 : u_lay RX8 TX8 12 ∈ GW := gw_of (i := 970) (by decide +kernel) (by decide +kernel)
theorem inX8_13 : u_lay RX8 TX8 13 ∈ GW := gw_of (i := 972) (by decide +kernel) (by decide +kernel)
theorem inX8_14 : u_lay RX8 TX8 14 ∈ GW := gw_of (i := 974) (by decide +kernel) (by decide +kernel)
theorem inX8_15 : u_lay RX8 TX8 15 ∈ GW := gw_of (i := 976) (by decide +kernel) (by decide +kernel)
theorem inX8_16 : u_lay RX8 TX8 16 ∈ GW := gw_of (i := 978) (by decide +kernel) (by decide +kernel)
theorem inX8_17 : u_lay RX8 TX8 17 ∈ GW := gw_of (i := 980) (by decide +kernel) (by decide +kernel)
theorem inX8_18 : u_lay RX8 TX8 18 ∈ GW := gw_of (i := 982) (by decide +kernel) (by decide +kernel)
theorem inX8_19 : u_lay RX8 TX8 19 ∈ GW := gw_of (i := 984) (by decide +kernel) (by decide +kernel)
theorem inX8_20 : u_lay RX8 TX8 20 ∈ GW := gw_of (i := 986) (by decide +kernel) (by decide +kernel)
theorem inX8_21 : u_lay RX8 TX8 21 ∈ GW := gw_of (i := 988) (by decide +kernel) (by decide +kernel)
theorem inX8_22 : u_lay RX8 TX8 22 ∈ GW := gw_of (i := 990) (by decide +kernel) (by decide +kernel)
theorem inX8_23 : u_lay RX8 TX8 23 ∈ GW := gw_of (i := 992) (by decide +kernel) (by decide +kernel)
theorem inX8_24 : u_lay RX8 TX8 24 ∈ GW := gw_of (i := 994) (by decide +kernel) (by decide +kernel)
theorem inX8_25 : u_lay RX8 TX8 25 ∈ GW := gw_of (i := 996) (by decide +kernel) (by decide +kernel)
theorem inX8_26 : u_lay RX8 TX8 26 ∈ GW := gw_of (i := 998) (by decide +kernel) (by decide +kernel)
theorem inX8 : ∀ t ∈ u_ws RX8 TX8 27, t ∈ GW := by
  intro t ht
  obtain ⟨j, hj, rfl⟩ := List.mem_map.mp ht
  have hj := List.mem_range.mp hj
  match j, hj with
  | 0, _ => exact inX8_0
  | 1, _ => exact inX8_1
  | 2, _ => exact inX8_2
  | 3, _ => exact inX8_3
  | 4, _ => exact inX8_4
  | 5, _ => exact inX8_5
  | 6, _ => exact inX8_6
  | 7, _ => exact inX8_7
  | 8, _ => exact inX8_8
  | 9, _ => exact inX8_9
  | 10, _ => exact inX8_10
  | 11, _ => exact inX8_11
  | 12, _ => exact inX8_12
  | 13, _ => exact inX8_13
  | 14, _ => exact inX8_14
  | 15, _ => exact inX8_15
  | 16, _ => exact inX8_16
  | 17, _ => exact inX8_17
  | 18, _ => exact inX8_18
  | 19, _ => exact inX8_19
  | 20, _ => exact inX8_20
  | 21, _ => exact inX8_21
  | 22, _ => exact inX8_22
  | 23, _ => exact inX8_23
  | 24, _ => exact inX8_24
  | 25, _ => exact inX8_25
  | 26, _ => exact inX8_26
  | j + 27, h => exact absurd h (by omega)
theorem nbz {v : Int32} (h : nb v = v) : narrow .boolean (.int v) = .int v := congrArg Value.int h
theorem nb01 (v : Int32) : nb v = 0 ∨ nb v = 1 := by
  obtain ⟨j, hj, e⟩ := pk_andE v (m := 1) 1 (by decide)
  have h : j = 0 ∨ j = 1 := by omega
  rcases h with h | h
  · subst h; exact Or.inl e
  · subst h; exact Or.inr e
theorem nbf {v : Int32} (h : nb v = v) : fits .boolean (.int v) = true := by
  rcases nb01 v with e | e
  · rw [h] at e; subst e; rfl
  · rw [h] at e; subst e; rfl
theorem inb_lt {i : Int32} {n : Nat} (h : inb i n = true) : i.toNatClampNeg < n := Nat.not_le.mp fun q => inb_in h (Or.inr q)
section RAA
variable {own : String} {cc : ByteArray} {nL : Nat} {rm : Room} {X : MX} {w : WX} {cn sn : Nat} {S : Mem} {L : List (Nat × Value)} {pc pc' : Nat} {st : List Value} {α : Type} {A : Option α} {z : α} {ck k n : Nat}
theorem r_alenA (h0 : CX own cc nL rm X w) (ha : isIA w ck n) (hk : k < wN w ck) (hdg : decode cc pc = .ok (.arraylength, 1)) (e : pc + 1 = pc') (kk : GV X w nL cn sn S L pc' (.int (nI n) :: st)) : GV X w nL cn sn S L pc (.ref (wA w ck k) :: st) := by
  obtain ⟨cA, h1, h2⟩ := ha
  exact r_alen h0 0 hk (h2 _ _ _) h1 rfl hdg e kk
theorem r_ialdA (h0 : CX own cc nL rm X w) (ha : isIA w ck n) (hk : k < wN w ck) {i : Int32} (hdg : decode cc pc = .ok (.iaload, 1)) (e : pc + 1 = pc') (h : gd (inb i n) A = some z) (kk : A = some z → GV X w nL cn sn S L pc' (.int (S.1 ck k i.toNatClampNeg) :: st)) : GV X w nL cn sn S L pc (.int i :: .ref (wA w ck k) :: st) := by
  obtain ⟨cA, h1, h2⟩ := ha
  exact r_iald h0 0 hk (h2 _ _ _) h1 hdg e h kk
theorem r_zaldA (h0 : CX own cc nL rm X w) (ha : isZA w ck n) (hk : k < wN w ck) {i : Int32} (hdg : decode cc pc = .ok (.baload, 1)) (e : pc + 1 = pc') (h : gd (inb i n) A = some z) (kk : A = some z → GV X w nL cn sn S L pc' (.int (S.1 ck k i.toNatClampNeg) :: st)) : GV X w nL cn sn S L pc (.int i :: .ref (wA w ck k) :: st) := by
  obtain ⟨cA, h1, h2⟩ := ha
  exact r_zald h0 1 hk (h2 _ _ _) h1 hdg e h kk
theorem r_iastA (h0 : CX own cc nL rm X w) (ha : isIA w ck n) (hk : k < wN w ck) {i x : Int32} (hdg : decode cc pc = .ok (.iastore, 1)) (e : pc + 1 = pc') (h : gd (inb i n) A = some z) (kk : A = some z → GV X w nL cn sn (wI S ck k i.toNatClampNeg x) L pc' st) : GV X w nL cn sn S L pc (.int x :: .int i :: .ref (wA w ck k) :: st) := by
  obtain ⟨cA, h1, h2⟩ := ha
  exact r_iast h0 0 hk (fun f g => h2 f g k) h1 hdg e h kk
theorem r_zastA (h0 : CX own cc nL rm X w) (ha : isZA w ck n) (hk : k < wN w ck) {i x : Int32} (hdg : decode cc pc = .ok (.bastore, 1)) (e : pc + 1 = pc') (h : gd (inb i n) A = some z) (kk : A = some z → GV X w nL cn sn (wI S ck k i.toNatClampNeg (nb x)) L pc' st) : GV X w nL cn sn S L pc (.int x :: .int i :: .ref (wA w ck k) :: st) := by
  obtain ⟨cA, h1, h2⟩ := ha
  exact r_zast h0 1 hk (fun f g => h2 f g k) h1 hdg e h kk
end RAA
theorem kb_8 : (Int8.ofInt (8)).toInt32 = (8 : Int32) := by decide
theorem kb_9 : (Int8.ofInt (9)).toInt32 = (9 : Int32) := by decide
theorem kb_10 : (Int8.ofInt (10)).toInt32 = (10 : Int32) := by decide
theorem kb_12 : (Int8.ofInt (12)).toInt32 = (12 : Int32) := by decide
theorem kb_15 : (Int8.ofInt (15)).toInt32 = (15 : Int32) := by decide
theorem kb_16 : (Int8.ofInt (16)).toInt32 = (16 : Int32) := by decide
theorem kb_20 : (Int8.ofInt (20)).toInt32 = (20 : Int32) := by decide
theorem kb_30 : (Int8.ofInt (30)).toInt32 = (30 : Int32) := by decide
theorem kb_32 : (Int8.ofInt (32)).toInt32 = (32 : Int32) := by decide
theorem kb_40 : (Int8.ofInt (40)).toInt32 = (40 : Int32) := by decide
theorem kb_60 : (Int8.ofInt (60)).toInt32 = (60 : Int32) := by decide
theorem kb_61 : (Int8.ofInt (61)).toInt32 = (61 : Int32) := by decide
theorem kb_63 : (Int8.ofInt (63)).toInt32 = (63 : Int32) := by decide
theorem kb_64 : (Int8.ofInt (64)).toInt32 = (64 : Int32) := by decide
theorem kb_80 : (Int8.ofInt (80)).toInt32 = (80 : Int32) := by decide
theorem kb_90 : (Int8.ofInt (90)).toInt32 = (90 : Int32) := by decide
theorem kb_127 : (Int8.ofInt (127)).toInt32 = (127 : Int32) := by decide
theorem ki_m1 : Int32.ofInt (-1) = (-1 : Int32) := by decide
theorem ki_0 : Int32.ofInt (0) = (0 : Int32) := by decide
theorem ki_1 : Int32.ofInt (1) = (1 : Int32) := by decide
theorem ki_2 : Int32.ofInt (2) = (2 : Int32) := by decide
theorem ki_3 : Int32.ofInt (3) = (3 : Int32) := by decide
theorem ki_4 : Int32.ofInt (4) = (4 : Int32) := by decide
theorem ki_5 : Int32.ofInt (5) = (5 : Int32) := by decide
theorem ks_600 : (Int16.ofInt (600)).toInt32 = (600 : Int32) := by decide
theorem ks_1800 : (Int16.ofInt (1800)).toInt32 = (1800 : Int32) := by decide
theorem ks_3600 : (Int16.ofInt (3600)).toInt32 = (3600 : Int32) := by decide
theorem ks_7200 : (Int16.ofInt (7200)).toInt32 = (7200 : Int32) := by decide
