section CI2
variable {own : String} {cc : ByteArray} {nL : Nat} {rm : Room} {X : MX} {A : Nat → Prop} {cn sn : Nat} {P : Heap → Prop} {L : List (Nat × Value)} {pc pc' : Nat} {st : List Value}
theorem i_ge (h0 : LX own cc nL rm X) {x y : Int32} {off : Int} (hdg : decode cc pc = .ok (.if_icmp .ge off, 3)) (et : (pc : Int) + off = (pc' : Int)) (h : y ≤ x) (k : LV X A nL cn sn P L pc' st) : LV X A nL cn sn P L pc (.int y :: .int x :: st) := by
  obtain ⟨p, l, en, R, s, m, args, below, meth, c, Q⟩ := X
  obtain ⟨hx, hb, -⟩ := h0
  intro H locs ls hP hS hl
  exact lv_icmp_ge hx hb hdg et (fun _ => k H locs ls hP hS hl) (fun c => absurd h c)
theorem i_lt (h0 : LX own cc nL rm X) {x y : Int32} {off : Int} (t : Nat) (hdg : decode cc pc = .ok (.if_icmp .ge off, 3)) (et : (pc : Int) + off = (t : Int)) (e : pc + 3 = pc') (h : ¬ y ≤ x) (k : LV X A nL cn sn P L pc' st) : LV X A nL cn sn P L pc (.int y :: .int x :: st) := by
  obtain ⟨p, l, en, R, s, m, args, below, meth, c, Q⟩ := X
  obtain ⟨hx, hb, -⟩ := h0
  subst e
  intro H locs ls hP hS hl
  exact lv_icmp_ge hx hb hdg et (fun c => absurd c h) (fun _ => k H locs ls hP hS hl)
end CI2
theorem vi_188 : Cond.methodLink RX5 1 Lib.objectInit ∈ GW := gw_of (i := 188) (by decide +kernel) (by decide +kernel)
theorem vi_51 : Cond.instanceMethod Lib.objectInit ∈ GW := gw_of (i := 51) (by decide +kernel) (by decide +kernel)
theorem vi_52 : Cond.code Lib.objectInit ⟨#[0xb1]⟩ 1 none ∈ GW := gw_of (i := 52) (by decide +kernel) (by decide +kernel)
theorem vi_182 : Cond.methodLink RX2 1 Lib.objectInit ∈ GW := gw_of (i := 182) (by decide +kernel) (by decide +kernel)
theorem vi_183 : Cond.classLink RX2 7 RX5 ∈ GW := gw_of (i := 183) (by decide +kernel) (by decide +kernel)
theorem vi_184 : Cond.instantiable RX5 2 ∈ GW := gw_of (i := 184) (by decide +kernel) (by decide +kernel)
theorem vi_34 : Cond.initialized RX5 ∈ GW := gw_of (i := 34) (by decide +kernel) (by decide +kernel)
theorem vi_185 : Cond.methodLinkNest RX2 9 yX5_init "Greenwave" ∈ NW := nw_of (i := 185) (by decide +kernel) (by decide +kernel)
theorem vi_186 : Cond.instanceMethod yX5_init ∈ GW := gw_of (i := 186) (by decide +kernel) (by decide +kernel)
theorem vi_187 : Cond.code yX5_init cX5_init 1 none ∈ GW := gw_of (i := 187) (by decide +kernel) (by decide +kernel)
theorem vi_196 : Cond.fieldLink RX2 10 RX2 "forward" "LGreenwave$Seconds;" ∈ GW := gw_of (i := 196) (by decide +kernel) (by decide +kernel)
theorem vi_198 : Cond.fieldLink RX2 16 RX2 "backward" "LGreenwave$Seconds;" ∈ GW := gw_of (i := 198) (by decide +kernel) (by decide +kernel)
theorem vi_71 : Cond.methodLink RX4 3 Lib.objectInit ∈ GW := gw_of (i := 71) (by decide +kernel) (by decide +kernel)
theorem vi_90 : Cond.arrayClass (newarray.typeOf .int) ∈ GW := gw_of (i := 90) (by decide +kernel) (by decide +kernel)
theorem vi_72 : Cond.fieldLink RX4 11 RX4 "due" "[I" ∈ GW := gw_of (i := 72) (by decide +kernel) (by decide +kernel)
theorem vi_65 : Cond.methodLink RX3 3 Lib.objectInit ∈ GW := gw_of (i := 65) (by decide +kernel) (by decide +kernel)
theorem vi_91 : Cond.fieldLink RX3 9 RX3 "clearances" "[I" ∈ GW := gw_of (i := 91) (by decide +kernel) (by decide +kernel)
theorem vi_92 : Cond.fieldLink RX3 15 RX3 "sets" "[I" ∈ GW := gw_of (i := 92) (by decide +kernel) (by decide +kernel)
theorem vi_93 : Cond.fieldLink RX3 18 RX3 "flows" "[I" ∈ GW := gw_of (i := 93) (by decide +kernel) (by decide +kernel)
theorem vi_94 : Cond.fieldLink RX3 21 RX3 "greens" "[I" ∈ GW := gw_of (i := 94) (by decide +kernel) (by decide +kernel)
theorem vi_96 : Cond.fieldLink RX3 24 RX3 "clearings" "[I" ∈ GW := gw_of (i := 96) (by decide +kernel) (by decide +kernel)
theorem vi_98 : Cond.fieldLink RX3 27 RX3 "lights" "[I" ∈ GW := gw_of (i := 98) (by decide +kernel) (by decide +kernel)
theorem vi_66 : Cond.classLink RX3 30 RX4 ∈ GW := gw_of (i := 66) (by decide +kernel) (by decide +kernel)
theorem vi_67 : Cond.instantiable RX4 4 ∈ GW := gw_of (i := 67) (by decide +kernel) (by decide +kernel)
theorem vi_31 : Cond.initialized RX4 ∈ GW := gw_of (i := 31) (by decide +kernel) (by decide +kernel)
theorem vi_68 : Cond.methodLinkNest RX3 32 yX4_init "Greenwave" ∈ NW := nw_of (i := 68) (by decide +kernel) (by decide +kernel)
theorem vi_69 : Cond.instanceMethod yX4_init ∈ GW := gw_of (i := 69) (by decide +kernel) (by decide +kernel)
theorem vi_70 : Cond.code yX4_init cX4_init 1 none ∈ GW := gw_of (i := 70) (by decide +kernel) (by decide +kernel)
theorem vi_99 : Cond.fieldLink RX3 33 RX3 "link" "LGreenwave$Link;" ∈ GW := gw_of (i := 99) (by decide +kernel) (by decide +kernel)
theorem vi_226 : Cond.methodLink RX6 3 Lib.objectInit ∈ GW := gw_of (i := 226) (by decide +kernel) (by decide +kernel)
theorem vi_227 : Cond.fieldLink RX6 9 RX6 "corridor" "LGreenwave$Corridor;" ∈ GW := gw_of (i := 227) (by decide +kernel) (by decide +kernel)
theorem vi_176 : Cond.methodLink RX0 3 Lib.objectInit ∈ GW := gw_of (i := 176) (by decide +kernel) (by decide +kernel)
theorem vi_177 : Cond.classLink RX0 9 RX2 ∈ GW := gw_of (i := 177) (by decide +kernel) (by decide +kernel)
theorem vi_178 : Cond.instantiable RX2 2 ∈ GW := gw_of (i := 178) (by decide +kernel) (by decide +kernel)
theorem vi_33 : Cond.initialized RX2 ∈ GW := gw_of (i := 33) (by decide +kernel) (by decide +kernel)
theorem vi_179 : Cond.methodLinkNest RX0 11 yX2_init "Greenwave" ∈ NW := nw_of (i := 179) (by decide +kernel) (by decide +kernel)
theorem vi_180 : Cond.instanceMethod yX2_init ∈ GW := gw_of (i := 180) (by decide +kernel) (by decide +kernel)
theorem vi_181 : Cond.code yX2_init cX2_init 1 none ∈ GW := gw_of (i := 181) (by decide +kernel) (by decide +kernel)
theorem vi_206 : Cond.fieldLink RX0 12 RX0 "common" "LGreenwave$FreeSeconds;" ∈ GW := gw_of (i := 206) (by decide +kernel) (by decide +kernel)
theorem vi_207 : Cond.fieldLink RX0 18 RX0 "single" "LGreenwave$FreeSeconds;" ∈ GW := gw_of (i := 207) (by decide +kernel) (by decide +kernel)
theorem vi_208 : Cond.fieldLink RX0 21 RX0 "pair" "LGreenwave$FreeSeconds;" ∈ GW := gw_of (i := 208) (by decide +kernel) (by decide +kernel)
theorem vi_209 : Cond.fieldLink RX0 24 RX0 "third" "LGreenwave$FreeSeconds;" ∈ GW := gw_of (i := 209) (by decide +kernel) (by decide +kernel)
theorem vi_205 : Cond.fieldLink RX0 27 RX0 "corridor" "LGreenwave$Corridor;" ∈ GW := gw_of (i := 205) (by decide +kernel) (by decide +kernel)
theorem vi_58 : Cond.methodLink RX1 3 Lib.objectInit ∈ GW := gw_of (i := 58) (by decide +kernel) (by decide +kernel)
theorem vi_59 : Cond.classLink RX1 9 RX3 ∈ GW := gw_of (i := 59) (by decide +kernel) (by decide +kernel)
theorem vi_156 : Cond.fieldLink RX1 11 RX1 "all" "[LGreenwave$Junction;" ∈ GW := gw_of (i := 156) (by decide +kernel) (by decide +kernel)
theorem vi_61 : Cond.instantiable RX3 17 ∈ GW := gw_of (i := 61) (by decide +kernel) (by decide +kernel)
theorem vi_30 : Cond.initialized RX3 ∈ GW := gw_of (i := 30) (by decide +kernel) (by decide +kernel)
theorem vi_62 : Cond.methodLinkNest RX1 17 yX3_init "Greenwave" ∈ NW := nw_of (i := 62) (by decide +kernel) (by decide +kernel)
theorem vi_63 : Cond.instanceMethod yX3_init ∈ GW := gw_of (i := 63) (by decide +kernel) (by decide +kernel)
theorem vi_64 : Cond.code yX3_init cX3_init 1 none ∈ GW := gw_of (i := 64) (by decide +kernel) (by decide +kernel)
abbrev dfX0_ : List Value := [.null, .null, .null, .null, .null]
theorem dfX0 : ∀ j, j < 5 → defaultValue (tyX0 j) = vp_V dfX0_ j := fun j hj => match j, hj with
  | 0, _ => rfl
  | 1, _ => rfl
  | 2, _ => rfl
  | 3, _ => rfl
  | 4, _ => rfl
  | j + 5, h => absurd h (by omega)
abbrev dfX1_ : List Value := [.null, .int 0, .int 0]
theorem dfX1 : ∀ j, j < 3 → defaultValue (tyX1 j) = vp_V dfX1_ j := fun j hj => match j, hj with
  | 0, _ => rfl
  | 1, _ => rfl
  | 2, _ => rfl
  | j + 3, h => absurd h (by omega)
abbrev dfX2_ : List Value := [.null, .null]
theorem dfX2 : ∀ j, j < 2 → defaultValue (tyX2 j) = vp_V dfX2_ j := fun j hj => match j, hj with
  | 0, _ => rfl
  | 1, _ => rfl
  | j + 2, h => absurd h (by omega)
abbrev dfX3_ : List Value := [.null, .null, .null, .null, .null, .null, .null, .int 0, .int 0, .int 0, .int 0, .int 0, .int 0, .int 0, .int 0, .int 0, .int 0]
theorem dfX3 : ∀ j, j < 17 → defaultValue (tyX3 j) = vp_V dfX3_ j := fun j hj => match j, hj with
  | 0, _ => rfl
  | 1, _ => rfl
  | 2, _ => rfl
  | 3, _ => rfl
  | 4, _ => rfl
  | 5, _ => rfl
  | 6, _ => rfl
  | 7, _ => rfl
  | 8, _ => rfl
  | 9, _ => rfl
  | 10, _ => rfl
  | 11, _ => rfl
  | 12, _ => rfl
  | 13, _ => rfl
  | 14, _ => rfl
  | 15, _ => rfl
  | 16, _ => rfl
  | j + 17, h => absurd h (by omega)
abbrev dfX4_ : List Value := [.null, .int 0, .int 0, .int 0]
theorem dfX4 : ∀ j, j < 4 → defaultValue (tyX4 j) = vp_V dfX4_ j := fun j hj => match j, hj with
  | 0, _ => rfl
  | 1, _ => rfl
  | 2, _ => rfl
  | 3, _ => rfl
  | j + 4, h => absurd h (by omega)
abbrev dfX5_ : List Value := [.long 0, .long 0]
theorem dfX5 : ∀ j, j < 2 → defaultValue (tyX5 j) = vp_V dfX5_ j := fun j hj => match j, hj with
  | 0, _ => rfl
  | 1, _ => rfl
  | j + 2, h => absurd h (by omega)
abbrev dfX6_ : List Value := [.null, .int 0, .int 0, .int 0, .int 0, .int 0]
theorem dfX6 : ∀ j, j < 6 → defaultValue (tyX6 j) = vp_V dfX6_ j := fun j hj => match j, hj with
  | 0, _ => rfl
  | 1, _ => rfl
  | 2, _ => rfl
  | 3, _ => rfl
  | 4, _ => rfl
  | 5, _ => rfl
  | j + 6, h => absurd h (by omega)
abbrev dfX7_ : List Value := [.null, .null, .null]
theorem dfX7 : ∀ j, j < 3 → defaultValue (tyX7 j) = vp_V dfX7_ j := fun j hj => match j, hj with
  | 0, _ => rfl
  | 1, _ => rfl
  | 2, _ => rfl
  | j + 3, h => absurd h (by omega)
def esX5 (cI cO : ClassId) (b : Nat) : List va_E := [.inr (5, [.long 0, .long 0])]
abbrev ri_X5 : Room := { frames := 1, cells := 0, slots := 0, locals := 20 }
theorem ci_X5 (D : va_G) (cI cO : ClassId) (b : Nat) : ctI yX5_init cX5_init 1 ri_X5 0 0 D clC [(cI, .int), (cO, .object "Greenwave$Junction")] b [.ref b] [.inr (5, dfX5_)] (hq D clC b (esX5 cI cO b)) := by
  refine cti_of (own := RX5) (L := [(0, .ref b)]) (by decide +kernel) rfl rfl (Nat.le_of_ble_eq_true rfl) rfl (fun X h0 hK hE => ?_)
  unfold dfX5_
  refine l_aload_n (pc' := 1) h0 0 dX5_init_0 rfl rfl rfl ?_
  refine i_obj (pc' := 4) h0 vi_188 vi_51 vi_52 dX5_init_1 rfl (Nat.le_of_ble_eq_true rfl) ⟨Nat.le_of_ble_eq_true rfl, Nat.le_of_ble_eq_true rfl⟩ ?_
  exact i_vret h0 hE dX5_init_4 ⟨Nat.le_of_ble_eq_true rfl, Nat.le_of_ble_eq_true rfl⟩ (fun _ h => h)
def esX2 (cI cO : ClassId) (b : Nat) : List va_E := [.inr (2, [.ref (b + 1), .ref (b + 2)])] ++ esX5 cI cO (b + 1) ++ esX5 cI cO (b + 2)
abbrev ri_X2 : Room := { frames := 2, cells := 2, slots := 4, locals := 40 }
theorem ci_X2 (D : va_G) (cI cO : ClassId) (b : Nat) : ctI yX2_init cX2_init 1 ri_X2 2 4 D clC [(cI, .int), (cO, .object "Greenwave$Junction")] b [.ref b] [.inr (2, dfX2_)] (hq D clC b (esX2 cI cO b)) := by
  refine cti_of (own := RX2) (L := [(0, .ref b)]) (by decide +kernel) rfl rfl (Nat.le_of_ble_eq_true rfl) rfl (fun X h0 hK hE => ?_)
  unfold dfX2_
  refine l_aload_n (pc' := 1) h0 0 dX2_init_0 rfl rfl rfl ?_
  refine i_obj (pc' := 4) h0 vi_182 vi_51 vi_52 dX2_init_1 rfl (Nat.le_of_ble_eq_true rfl) ⟨Nat.le_of_ble_eq_true rfl, Nat.le_of_ble_eq_true rfl⟩ ?_
  refine l_aload_n (pc' := 5) h0 0 dX2_init_4 rfl rfl rfl ?_
  refine i_new (cn := 0) (sn := 0) (pc' := 8) (es := [.inr (2, [.null, .null])]) (n := 1) h0 hK (T := TX5) (N := 2) (ci := 5) rfl inX5 tyX5 tyX5_ok vi_183 vi_184 vi_34 dfX5 ⟨Nat.le_of_ble_eq_true rfl, Nat.le_of_ble_eq_true rfl⟩ rfl dX2_init_5 rfl ?_
  refine l_dup (pc' := 9) h0 dX2_init_8 rfl rfl ?_
  refine i_call (cn := 1) (sn := 2) (es := [.inr (2, [.null, .null])]) (n := 1) (np := 0) (pc' := 12) h0 hK (fun _ h => h) (Or.inr ⟨"Greenwave", vi_185⟩) vi_186 vi_187 vi_34 rfl ⟨by decide +kernel, by decide +kernel, by decide +kernel⟩ [] [.ref (b + 1), .ref b] (ci_X5 D cI cO (b + 1)) rfl rfl rfl dX2_init_9 rfl (Nat.le_of_ble_eq_true rfl) ⟨rfl, rfl, Nat.le_of_ble_eq_true rfl, Nat.le_of_ble_eq_true rfl⟩ ⟨Nat.le_of_ble_eq_true rfl, Nat.le_of_ble_eq_true rfl⟩ ?_
  refine i_put (pc' := 15) (es := [.inr (2, [.null, .null])] ++ esX5 cI cO (b + 1)) (es' := [.inr (2, [.ref (b + 1), .null])] ++ esX5 cI cO (b + 1)) h0 hK (fun _ h => h) 0 (T := TX2) (N := 2) rfl rfl inX2 tyX2 tyX2_ok nmX2 0 (by decide) vi_196 rfl rfl rfl rfl rfl (Nat.le_of_ble_eq_true rfl) rfl dX2_init_12 rfl ?_
  refine l_aload_n (pc' := 16) h0 0 dX2_init_15 rfl rfl rfl ?_
  refine i_new (cn := 1) (sn := 2) (pc' := 19) (es := [.inr (2, [.ref (b + 1), .null])] ++ esX5 cI cO (b + 1)) (n := 2) h0 hK (T := TX5) (N := 2) (ci := 5) rfl inX5 tyX5 tyX5_ok vi_183 vi_184 vi_34 dfX5 ⟨Nat.le_of_ble_eq_true rfl, Nat.le_of_ble_eq_true rfl⟩ rfl dX2_init_16 rfl ?_
  refine l_dup (pc' := 20) h0 dX2_init_19 rfl rfl ?_
  refine i_call (cn := 2) (sn := 4) (es := [.inr (2, [.ref (b + 1), .null])] ++ esX5 cI cO (b + 1)) (n := 2) (np := 0) (pc' := 23) h0 hK (fun _ h => h) (Or.inr ⟨"Greenwave", vi_185⟩) vi_186 vi_187 vi_34 rfl ⟨by decide +kernel, by decide +kernel, by decide +kernel⟩ [] [.ref (b + 2), .ref b] (ci_X5 D cI cO (b + 2)) rfl rfl rfl dX2_init_20 rfl (Nat.le_of_ble_eq_true rfl) ⟨rfl, rfl, Nat.le_of_ble_eq_true rfl, Nat.le_of_ble_eq_true rfl⟩ ⟨Nat.le_of_ble_eq_true rfl, Nat.le_of_ble_eq_true rfl⟩ ?_
  refine i_put (pc' := 26) (es := [.inr (2, [.ref (b + 1), .null])] ++ esX5 cI cO (b + 1) ++ esX5 cI cO (b + 2)) (es' := [.inr (2, [.ref (b + 1), .ref (b + 2)])] ++ esX5 cI cO (b + 1) ++ esX5 cI cO (b + 2)) h0 hK (fun _ h => h) 0 (T := TX2) (N := 2) rfl rfl inX2 tyX2 tyX2_ok nmX2 1 (by decide) vi_198 rfl rfl rfl rfl rfl (Nat.le_of_ble_eq_true rfl) rfl dX2_init_23 rfl ?_
  exact i_vret h0 hE dX2_init_26 ⟨Nat.le_of_ble_eq_true rfl, Nat.le_of_ble_eq_true rfl⟩ (fun _ h => h)
def esX4 (cI cO : ClassId) (b : Nat) : List va_E := [.inr (4, [.ref (b + 1), .int 0, .int 0, .int 0]), .inl (cI, 61, .inl (fun _ => 0))]
abbrev ri_X4 : Room := { frames := 1, cells := 1, slots := 61, locals := 20 }
theorem ci_X4 (D : va_G) (cI cO : ClassId) (b : Nat) : ctI yX4_init cX4_init 1 ri_X4 1 61 D clC [(cI, .int), (cO, .object "Greenwave$Junction")] b [.ref b] [.inr (4, dfX4_)] (hq D clC b (esX4 cI cO b)) := by
  refine cti_of (own := RX4) (L := [(0, .ref b)]) (by decide +kernel) rfl rfl (Nat.le_of_ble_eq_true rfl) rfl (fun X h0 hK hE => ?_)
  unfold dfX4_
  refine l_aload_n (pc' := 1) h0 0 dX4_init_0 rfl rfl rfl ?_
  refine i_obj (pc' := 4) h0 vi_71 vi_51 vi_52 dX4_init_1 rfl (Nat.le_of_ble_eq_true rfl) ⟨Nat.le_of_ble_eq_true rfl, Nat.le_of_ble_eq_true rfl⟩ ?_
  refine l_aload_n (pc' := 5) h0 0 dX4_init_4 rfl rfl rfl ?_
  refine l_bipush (pc' := 7) (v := 61) h0 dX4_init_5 (by decide +kernel) rfl ?_
  refine i_newa (cn := 0) (sn := 0) (pc' := 9) (es := [.inr (4, [.null, .int 0, .int 0, .int 0])]) (N := 61) (n := 1) h0 hK (atype := .int) 0 rfl (fun h => h) rfl vi_90 (by decide) (by decide +kernel) (Nat.le_of_ble_eq_true rfl) ⟨Nat.le_of_ble_eq_true rfl, Nat.le_of_ble_eq_true rfl⟩ rfl dX4_init_7 rfl ?_
  refine i_put (pc' := 12) (es := [.inr (4, [.null, .int 0, .int 0, .int 0]), .inl (cI, 61, .inl (fun _ => 0))]) (es' := [.inr (4, [.ref (b + 1), .int 0, .int 0, .int 0]), .inl (cI, 61, .inl (fun _ => 0))]) h0 hK (fun _ h => h) 0 (T := TX4) (N := 4) rfl rfl inX4 tyX4 tyX4_ok nmX4 0 (by decide) vi_72 rfl rfl rfl rfl rfl (Nat.le_of_ble_eq_true rfl) rfl dX4_init_9 rfl ?_
  exact i_vret h0 hE dX4_init_12 ⟨Nat.le_of_ble_eq_true rfl, Nat.le_of_ble_eq_true rfl⟩ (fun _ h => h)
def esX3 (cI cO : ClassId) (b : Nat) : List va_E := [.inr (3, [.ref (b + 1), .ref (b + 2), .ref (b + 3), .ref (b + 4), .ref (b + 5), .ref (b + 6), .ref (b + 7), .int 0, .int 0, .int 0, .int 0, .int 0, .int 0, .int 0, .int 0, .int 0, .int 0]), .inl (cI, 16, .inl (fun _ => 0)), .inl (cI, 4, .inl (fun _ => 0)), .inl (cI, 4, .inl (fun _ => 0)), .inl (cI, 4, .inl (fun _ => 0)), .inl (cI, 4, .inl (fun _ => 0)), .inl (cI, 90, .inl (fun _ => 0))] ++ esX4 cI cO (b + 7)
abbrev ri_X3 : Room := { frames := 2, cells := 8, slots := 187, locals := 40 }
theorem ci_X3 (D : va_G) (cI cO : ClassId) (b : Nat) : ctI yX3_init cX3_init 1 ri_X3 8 187 D clC [(cI, .int), (cO, .object "Greenwave$Junction")] b [.ref b] [.inr (3, dfX3_)] (hq D clC b (esX3 cI cO b)) := by
  refine cti_of (own := RX3) (L := [(0, .ref b)]) (by decide +kernel) rfl rfl (Nat.le_of_ble_eq_true rfl) rfl (fun X h0 hK hE => ?_)
  unfold dfX3_
  refine l_aload_n (pc' := 1) h0 0 dX3_init_0 rfl rfl rfl ?_
  refine i_obj (pc' := 4) h0 vi_65 vi_51 vi_52 dX3_init_1 rfl (Nat.le_of_ble_eq_true rfl) ⟨Nat.le_of_ble_eq_true rfl, Nat.le_of_ble_eq_true rfl⟩ ?_
  refine l_aload_n (pc' := 5) h0 0 dX3_init_4 rfl rfl rfl ?_
  refine l_bipush (pc' := 7) (v := 16) h0 dX3_init_5 (by decide +kernel) rfl ?_
  refine i_newa (cn := 0) (sn := 0) (pc' := 9) (es := [.inr (3, [.null, .null, .null, .null, .null, .null, .null, .int 0, .int 0, .int 0, .int 0, .int 0, .int 0, .int 0, .int 0, .int 0, .int 0])]) (N := 16) (n := 1) h0 hK (atype := .int) 0 rfl (fun h => h) rfl vi_90 (by decide) (by decide +kernel) (Nat.le_of_ble_eq_true rfl) ⟨Nat.le_of_ble_eq_true rfl, Nat.le_of_ble_eq_true rfl⟩ rfl dX3_init_7 rfl ?_
  refine i_put (pc' := 12) (es := [.inr (3, [.null, .null, .null, .null, .null, .null, .null, .int 0, .int 0, .int 0, .int 0, .int 0, .int 0, .int 0, .int 0, .int 0, .int 0]), .inl (cI, 16, .inl (fun _ => 0))]) (es' := [.inr (3, [.ref (b + 1), .null, .null, .null, .null, .null, .null, .int 0, .int 0, .int 0, .int 0, .int 0, .int 0, .int 0, .int 0, .int 0, .int 0]), .inl (cI, 16, .inl (fun _ => 0))]) h0 hK (fun _ h => h) 0 (T := TX3) (N := 17) rfl rfl inX3 tyX3 tyX3_ok nmX3 0 (by decide) vi_91 rfl rfl rfl rfl rfl (Nat.le_of_ble_eq_true rfl) rfl dX3_init_9 rfl ?_
  refine l_aload_n (pc' := 13) h0 0 dX3_init_12 rfl rfl rfl ?_
  refine l_iconst (pc' := 14) h0 dX3_init_13 ki_4 rfl ?_
  refine i_newa (cn := 1) (sn := 16) (pc' := 16) (es := [.inr (3, [.ref (b + 1), .null, .null, .null, .null, .null, .null, .int 0, .int 0, .int 0, .int 0, .int 0, .int 0, .int 0, .int 0, .int 0, .int 0]), .inl (cI, 16, .inl (fun _ => 0))]) (N := 4) (n := 2) h0 hK (atype := .int) 0 rfl (fun h => h) rfl vi_90 (by decide) (by decide +kernel) (Nat.le_of_ble_eq_true rfl) ⟨Nat.le_of_ble_eq_true rfl, Nat.le_of_ble_eq_true rfl⟩ rfl dX3_init_14 rfl ?_
  refine i_put (pc' := 19) (es := [.inr (3, [.ref (b + 1), .null, .null, .null, .null, .null, .null, .int 0, .int 0, .int 0, .int 0, .int 0, .int 0, .int 0, .int 0, .int 0, .int 0]), .inl (cI, 16, .inl (fun _ => 0)), .inl (cI, 4, .inl (fun _ => 0))]) (es' := [.inr (3, [.ref (b + 1), .ref (b + 2), .null, .null, .null, .null, .null, .int 0, .int 0, .int 0, .int 0, .int 0, .int 0, .int 0, .int 0, .int 0, .int 0]), .inl (cI, 16, .inl (fun _ => 0)), .inl (cI, 4, .inl (fun _ => 0))]) h0 hK (fun _ h => h) 0 (T := TX3) (N := 17) rfl rfl inX3 tyX3 tyX3_ok nmX3 1 (by decide) vi_92 rfl rfl rfl rfl rfl (Nat.le_of_ble_eq_true rfl) rfl dX3_init_16 rfl ?_
  refine l_aload_n (pc' := 20) h0 0 dX3_init_19 rfl rfl rfl ?_
  refine l_iconst (pc' := 21) h0 dX3_init_20 ki_4 rfl ?_
  refine i_newa (cn := 2) (sn := 20) (pc' := 23) (es := [.inr (3, [.ref (b + 1), .ref (b + 2), .null, .null, .null, .null, .null, .int 0, .int 0, .int 0, .int 0, .int 0, .int 0, .int 0, .int 0, .int 0, .int 0]), .inl (cI, 16, .inl (fun _ => 0)), .inl (cI, 4, .inl (fun _ => 0))]) (N := 4) (n := 3) h0 hK (atype := .int) 0 rfl (fun h => h) rfl vi_90 (by decide) (by decide +kernel) (Nat.le_of_ble_eq_true rfl) ⟨Nat.le_of_ble_eq_true rfl, Nat.le_of_ble_eq_true rfl⟩ rfl dX3_init_21 rfl ?_
  refine i_put (pc' := 26) (es := [.inr (3, [.ref (b + 1), .ref (b + 2), .null, .null, .null, .null, .null, .int 0, .int 0, .int 0, .int 0, .int 0, .int 0, .int 0, .int 0, .int 0, .int 0]), .inl (cI, 16, .inl (fun _ => 0)), .inl (cI, 4, .inl (fun _ => 0)), .inl (cI, 4, .inl (fun _ => 0))]) (es' := [.inr (3, [.ref (b + 1), .ref (b + 2), .ref (b + 3), .null, .null, .null, .null, .int 0, .int 0, .int 0, .int 0, .int 0, .int 0, .int 0, .int 0, .int 0, .int 0]), .inl (cI, 16, .inl (fun _ => 0)), .inl (cI, 4, .inl (fun _ => 0)), .inl (cI, 4, .inl (fun _ => 0))]) h0 hK (fun _ h => h) 0 (T := TX3) (N := 17) rfl rfl inX3 tyX3 tyX3_ok nmX3 2 (by decide) vi_93 rfl rfl rfl rfl rfl (Nat.le_of_ble_eq_true rfl) rfl dX3_init_23 rfl ?_
  refine l_aload_n (pc' := 27) h0 0 dX3_init_26 rfl rfl rfl ?_
  refine l_iconst (pc' := 28) h0 dX3_init_27 ki_4 rfl ?_
  refine i_newa (cn := 3) (sn := 24) (pc' := 30) (es := [.inr (3, [.ref (b + 1), .ref (b + 2), .ref (b + 3), .null, .null, .null, .null, .int 0, .int 0, .int 0, .int 0, .int 0, .int 0, .int 0, .int 0, .int 0, .int 0]), .inl (cI, 16, .inl (fun _ => 0)), .inl (cI, 4, .inl (fun _ => 0)), .inl (cI, 4, .inl (fun _ => 0))]) (N := 4) (n := 4) h0 hK (atype := .int) 0 rfl (fun h => h) rfl vi_90 (by decide) (by decide +kernel) (Nat.le_of_ble_eq_true rfl) ⟨Nat.le_of_ble_eq_true rfl, Nat.le_of_ble_eq_true rfl⟩ rfl dX3_init_28 rfl ?_
  refine i_put (pc' := 33) (es := [.inr (3, [.ref (b + 1), .ref (b + 2), .ref (b + 3), .null, .null, .null, .null, .int 0, .int 0, .int 0, .int 0, .int 0, .int 0, .int 0, .int 0, .int 0, .int 0]), .inl (cI, 16, .inl (fun _ => 0)), .inl (cI, 4, .inl (fun _ => 0)), .inl (cI, 4, .inl (fun _ => 0)), .inl (cI, 4, .inl (fun _ => 0))]) (es' := [.inr (3, [.ref (b + 1), .ref (b + 2), .ref (b + 3), .ref (b + 4), .null, .null, .null, .int 0, .int 0, .int 0, .int 0, .int 0, .int 0, .int 0, .int 0, .int 0, .int 0]), .inl (cI, 16, .inl (fun _ => 0)), .inl (cI, 4, .inl (fun _ => 0)), .inl (cI, 4, .inl (fun _ => 0)), .inl (cI, 4, .inl (fun _ => 0))]) h0 hK (fun _ h => h) 0 (T := TX3) (N := 17) rfl rfl inX3 tyX3 tyX3_ok nmX3 3 (by decide) vi_94 rfl rfl rfl rfl rfl (Nat.le_of_ble_eq_true rfl) rfl dX3_init_30 rfl ?_
  refine l_aload_n (pc' := 34) h0 0 dX3_init_33 rfl rfl rfl ?_
  refine l_iconst (pc' := 35) h0 dX3_init_34 ki_4 rfl ?_
  refine i_newa (cn := 4) (sn := 28) (pc' := 37) (es := [.inr (3, [.ref (b + 1), .ref (b + 2), .ref (b + 3), .ref (b + 4), .null, .null, .null, .int 0, .int 0, .int 0, .int 0, .int 0, .int 0, .int 0, .int 0, .int 0, .int 0]), .inl (cI, 16, .inl (fun _ => 0)), .inl (cI, 4, .inl (fun _ => 0)), .inl (cI, 4, .inl (fun _ => 0)), .inl (cI, 4, .inl (fun _ => 0))]) (N := 4) (n := 5) h0 hK (atype := .int) 0 rfl (fun h => h) rfl vi_90 (by decide) (by decide +kernel) (Nat.le_of_ble_eq_true rfl) ⟨Nat.le_of_ble_eq_true rfl, Nat.le_of_ble_eq_true rfl⟩ rfl dX3_init_35 rfl ?_
  refine i_put (pc' := 40) (es := [.inr (3, [.ref (b + 1), .ref (b + 2), .ref (b + 3), .ref (b + 4), .null, .null, .null, .int 0, .int 0, .int 0, .int 0, .int 0, .int 0, .int 0, .int 0, .int 0, .int 0]), .inl (cI, 16, .inl (fun _ => 0)), .inl (cI, 4, .inl (fun _ => 0)), .inl (cI, 4, .inl (fun _ => 0)), .inl (cI, 4, .inl (fun _ => 0)), .inl (cI, 4, .inl (fun _ => 0))]) (es' := [.inr (3, [.ref (b + 1), .ref (b + 2), .ref (b + 3), .ref (b + 4), .ref (b + 5), .null, .null, .int 0, .int 0, .int 0, .int 0, .int 0, .int 0, .int 0, .int 0, .int 0, .int 0]), .inl (cI, 16, .inl (fun _ => 0)), .inl (cI, 4, .inl (fun _ => 0)), .inl (cI, 4, .inl (fun _ => 0)), .inl (cI, 4, .inl (fun _ => 0)), .inl (cI, 4, .inl (fun _ => 0))]) h0 hK (fun _ h => h) 0 (T := TX3) (N := 17) rfl rfl inX3 tyX3 tyX3_ok nmX3 4 (by decide) vi_96 rfl rfl rfl rfl rfl (Nat.le_of_ble_eq_true rfl) rfl dX3_init_37 rfl ?_
  refine l_aload_n (pc' := 41) h0 0 dX3_init_40 rfl rfl rfl ?_
  refine l_bipush (pc' := 43) (v := 90) h0 dX3_init_41 (by decide +kernel) rfl ?_
  refine i_newa (cn := 5) (sn := 32) (pc' := 45) (es := [.inr (3, [.ref (b + 1), .ref (b + 2), .ref (b + 3), .ref (b + 4), .ref (b + 5), .null, .null, .int 0, .int 0, .int 0, .int 0, .int 0, .int 0, .int 0, .int 0, .int 0, .int 0]), .inl (cI, 16, .inl (fun _ => 0)), .inl (cI, 4, .inl (fun _ => 0)), .inl (cI, 4, .inl (fun _ => 0)), .inl (cI, 4, .inl (fun _ => 0)), .inl (cI, 4, .inl (fun _ => 0))]) (N := 90) (n := 6) h0 hK (atype := .int) 0 rfl (fun h => h) rfl vi_90 (by decide) (by decide +kernel) (Nat.le_of_ble_eq_true rfl) ⟨Nat.le_of_ble_eq_true rfl, Nat.le_of_ble_eq_true rfl⟩ rfl dX3_init_43 rfl ?_
  refine i_put (pc' := 48) (es := [.inr (3, [.ref (b + 1), .ref (b + 2), .ref (b + 3), .ref (b + 4), .ref (b + 5), .null, .null, .int 0, .int 0, .int 0, .int 0, .int 0, .int 0, .int 0, .int 0, .int 0, .int 0]), .inl (cI, 16, .inl (fun _ => 0)), .inl (cI, 4, .inl (fun _ => 0)), .inl (cI, 4, .inl (fun _ => 0)), .inl (cI, 4, .inl (fun _ => 0)), .inl (cI, 4, .inl (fun _ => 0)), .inl (cI, 90, .inl (fun _ => 0))]) (es' := [.inr (3, [.ref (b + 1), .ref (b + 2), .ref (b + 3), .ref (b + 4), .ref (b + 5), .ref (b + 6), .null, .int 0, .int 0, .int 0, .int 0, .int 0, .int 0, .int 0, .int 0, .int 0, .int 0]), .inl (cI, 16, .inl (fun _ => 0)), .inl (cI, 4, .inl (fun _ => 0)), .inl (cI, 4, .inl (fun _ => 0)), .inl (cI, 4, .inl (fun _ => 0)), .inl (cI, 4, .inl (fun _ => 0)), .inl (cI, 90, .inl (fun _ => 0))]) h0 hK (fun _ h => h) 0 (T := TX3) (N := 17) rfl rfl inX3 tyX3 tyX3_ok nmX3 5 (by decide) vi_98 rfl rfl rfl rfl rfl (Nat.le_of_ble_eq_true rfl) rfl dX3_init_45 rfl ?_
  refine l_aload_n (pc' := 49) h0 0 dX3_init_48 rfl rfl rfl ?_
  refine i_new (cn := 6) (sn := 122) (pc' := 52) (es := [.inr (3, [.ref (b + 1), .ref (b + 2), .ref (b + 3), .ref (b + 4), .ref (b + 5), .ref (b + 6), .null, .int 0, .int 0, .int 0, .int 0, .int 0, .int 0, .int 0, .int 0, .int 0, .int 0]), .inl (cI, 16, .inl (fun _ => 0)), .inl (cI, 4, .inl (fun _ => 0)), .inl (cI, 4, .inl (fun _ => 0)), .inl (cI, 4, .inl (fun _ => 0)), .inl (cI, 4, .inl (fun _ => 0)), .inl (cI, 90, .inl (fun _ => 0))]) (n := 7) h0 hK (T := TX4) (N := 4) (ci := 4) rfl inX4 tyX4 tyX4_ok vi_66 vi_67 vi_31 dfX4 ⟨Nat.le_of_ble_eq_true rfl, Nat.le_of_ble_eq_true rfl⟩ rfl dX3_init_49 rfl ?_
  refine l_dup (pc' := 53) h0 dX3_init_52 rfl rfl ?_
  refine i_call (cn := 7) (sn := 126) (es := [.inr (3, [.ref (b + 1), .ref (b + 2), .ref (b + 3), .ref (b + 4), .ref (b + 5), .ref (b + 6), .null, .int 0, .int 0, .int 0, .int 0, .int 0, .int 0, .int 0, .int 0, .int 0, .int 0]), .inl (cI, 16, .inl (fun _ => 0)), .inl (cI, 4, .inl (fun _ => 0)), .inl (cI, 4, .inl (fun _ => 0)), .inl (cI, 4, .inl (fun _ => 0)), .inl (cI, 4, .inl (fun _ => 0)), .inl (cI, 90, .inl (fun _ => 0))]) (n := 7) (np := 0) (pc' := 56) h0 hK (fun _ h => h) (Or.inr ⟨"Greenwave", vi_68⟩) vi_69 vi_70 vi_31 rfl ⟨by decide +kernel, by decide +kernel, by decide +kernel⟩ [] [.ref (b + 7), .ref b] (ci_X4 D cI cO (b + 7)) rfl rfl rfl dX3_init_53 rfl (Nat.le_of_ble_eq_true rfl) ⟨rfl, rfl, Nat.le_of_ble_eq_true rfl, Nat.le_of_ble_eq_true rfl⟩ ⟨Nat.le_of_ble_eq_true rfl, Nat.le_of_ble_eq_true rfl⟩ ?_
  refine i_put (pc' := 59) (es := [.inr (3, [.ref (b + 1), .ref (b + 2), .ref (b + 3), .ref (b + 4), .ref (b + 5), .ref (b + 6), .null, .int 0, .int 0, .int 0, .int 0, .int 0, .int 0, .int 0, .int 0, .int 0, .int 0]), .inl (cI, 16, .inl (fun _ => 0)), .inl (cI, 4, .inl (fun _ => 0)), .inl (cI, 4, .inl (fun _ => 0)), .inl (cI, 4, .inl (fun _ => 0)), .inl (cI, 4, .inl (fun _ => 0)), .inl (cI, 90, .inl (fun _ => 0))] ++ esX4 cI cO (b + 7)) (es' := [.inr (3, [.ref (b + 1), .ref (b + 2), .ref (b + 3), .ref (b + 4), .ref (b + 5), .ref (b + 6), .ref (b + 7), .int 0, .int 0, .int 0, .int 0, .int 0, .int 0, .int 0, .int 0, .int 0, .int 0]), .inl (cI, 16, .inl (fun _ => 0)), .inl (cI, 4, .inl (fun _ => 0)), .inl (cI, 4, .inl (fun _ => 0)), .inl (cI, 4, .inl (fun _ => 0)), .inl (cI, 4, .inl (fun _ => 0)), .inl (cI, 90, .inl (fun _ => 0))] ++ esX4 cI cO (b + 7)) h0 hK (fun _ h => h) 0 (T := TX3) (N := 17) rfl rfl inX3 tyX3 tyX3_ok nmX3 6 (by decide) vi_99 rfl rfl rfl rfl rfl (Nat.le_of_ble_eq_true rfl) rfl dX3_init_56 rfl ?_
  exact i_vret h0 hE dX3_init_59 ⟨Nat.le_of_ble_eq_true rfl, Nat.le_of_ble_eq_true rfl⟩ (fun _ h => h)
def esX6 (cI cO : ClassId) (b : Nat) (r1 : Nat) : List va_E := [.inr (6, [.ref r1, .int 0, .int 0, .int 0, .int 0, .int 0])]
abbrev ri_X6 : Room := { frames := 1, cells := 0, slots := 0, locals := 20 }
theorem ci_X6 (D : va_G) (cI cO : ClassId) (b : Nat) (r1 : Nat) : ctI yX6_init cX6_init 2 ri_X6 0 0 D clC [(cI, .int), (cO, .object "Greenwave$Junction")] b [.ref b, .ref r1] [.inr (6, dfX6_)] (hq D clC b (esX6 cI cO b r1)) := by
  refine cti_of (own := RX6) (L := [(0, .ref b), (1, .ref r1)]) (by decide +kernel) rfl rfl (Nat.le_of_ble_eq_true rfl) rfl (fun X h0 hK hE => ?_)
  unfold dfX6_
  refine l_aload_n (pc' := 1) h0 0 dX6_init_0 rfl rfl rfl ?_
  refine i_obj (pc' := 4) h0 vi_226 vi_51 vi_52 dX6_init_1 rfl (Nat.le_of_ble_eq_true rfl) ⟨Nat.le_of_ble_eq_true rfl, Nat.le_of_ble_eq_true rfl⟩ ?_
  refine l_aload_n (pc' := 5) h0 0 dX6_init_4 rfl rfl rfl ?_
  refine l_aload_n (pc' := 6) h0 1 dX6_init_5 rfl rfl rfl ?_
  refine i_put (pc' := 9) (es := [.inr (6, [.null, .int 0, .int 0, .int 0, .int 0, .int 0])]) (es' := [.inr (6, [.ref r1, .int 0, .int 0, .int 0, .int 0, .int 0])]) h0 hK (fun _ h => h) 0 (T := TX6) (N := 6) rfl rfl inX6 tyX6 tyX6_ok nmX6 0 (by decide) vi_227 rfl rfl rfl rfl rfl (Nat.le_of_ble_eq_true rfl) rfl dX6_init_6 rfl ?_
  exact i_vret h0 hE dX6_init_9 ⟨Nat.le_of_ble_eq_true rfl, Nat.le_of_ble_eq_true rfl⟩ (fun _ h => h)
def esX0 (cI cO : ClassId) (b : Nat) (r1 : Nat) : List va_E := [.inr (0, [.ref r1, .ref (b + 1), .ref (b + 4), .ref (b + 7), .ref (b + 10)])] ++ esX2 cI cO (b + 1) ++ esX2 cI cO (b + 4) ++ esX2 cI cO (b + 7) ++ esX2 cI cO (b + 10)
abbrev ri_X0 : Room := { frames := 3, cells := 12, slots := 24, locals := 60 }
theorem ci_X0 (D : va_G) (cI cO : ClassId) (b : Nat) (r1 : Nat) : ctI yX0_init cX0_init 2 ri_X0 12 24 D clC [(cI, .int), (cO, .object "Greenwave$Junction")] b [.ref b, .ref r1] [.inr (0, dfX0_)] (hq D clC b (esX0 cI cO b r1)) := by
  refine cti_of (own := RX0) (L := [(0, .ref b), (1, .ref r1)]) (by decide +kernel) rfl rfl (Nat.le_of_ble_eq_true rfl) rfl (fun X h0 hK hE => ?_)
  unfold dfX0_
  refine l_aload_n (pc' := 1) h0 0 dX0_init_0 rfl rfl rfl ?_
  refine i_obj (pc' := 4) h0 vi_176 vi_51 vi_52 dX0_init_1 rfl (Nat.le_of_ble_eq_true rfl) ⟨Nat.le_of_ble_eq_true rfl, Nat.le_of_ble_eq_true rfl⟩ ?_
  refine l_aload_n (pc' := 5) h0 0 dX0_init_4 rfl rfl rfl ?_
  refine i_new (cn := 0) (sn := 0) (pc' := 8) (es := [.inr (0, [.null, .null, .null, .null, .null])]) (n := 1) h0 hK (T := TX2) (N := 2) (ci := 2) rfl inX2 tyX2 tyX2_ok vi_177 vi_178 vi_33 dfX2 ⟨Nat.le_of_ble_eq_true rfl, Nat.le_of_ble_eq_true rfl⟩ rfl dX0_init_5 rfl ?_
  refine l_dup (pc' := 9) h0 dX0_init_8 rfl rfl ?_
  refine i_call (cn := 1) (sn := 2) (es := [.inr (0, [.null, .null, .null, .null, .null])]) (n := 1) (np := 0) (pc' := 12) h0 hK (fun _ h => h) (Or.inr ⟨"Greenwave", vi_179⟩) vi_180 vi_181 vi_33 rfl ⟨by decide +kernel, by decide +kernel, by decide +kernel⟩ [] [.ref (b + 1), .ref b] (ci_X2 D cI cO (b + 1)) rfl rfl rfl dX0_init_9 rfl (Nat.le_of_ble_eq_true rfl) ⟨rfl, rfl, Nat.le_of_ble_eq_true rfl, Nat.le_of_ble_eq_true rfl⟩ ⟨Nat.le_of_ble_eq_true rfl, Nat.le_of_ble_eq_true rfl⟩ ?_
  refine i_put (pc' := 15) (es := [.inr (0, [.null, .null, .null, .null, .null])] ++ esX2 cI cO (b + 1)) (es' := [.inr (0, [.null, .ref (b + 1), .null, .null, .null])] ++ esX2 cI cO (b + 1)) h0 hK (fun _ h => h) 0 (T := TX0) (N := 5) rfl rfl inX0 tyX0 tyX0_ok nmX0 1 (by decide) vi_206 rfl rfl rfl rfl rfl (Nat.le_of_ble_eq_true rfl) rfl dX0_init_12 rfl ?_
  refine l_aload_n (pc' := 16) h0 0 dX0_init_15 rfl rfl rfl ?_
  refine i_new (cn := 3) (sn := 6) (pc' := 19) (es := [.inr (0, [.null, .ref (b + 1), .null, .null, .null])] ++ esX2 cI cO (b + 1)) (n := 4) h0 hK (T := TX2) (N := 2) (ci := 2) rfl inX2 tyX2 tyX2_ok vi_177 vi_178 vi_33 dfX2 ⟨Nat.le_of_ble_eq_true rfl, Nat.le_of_ble_eq_true rfl⟩ rfl dX0_init_16 rfl ?_
  refine l_dup (pc' := 20) h0 dX0_init_19 rfl rfl ?_
  refine i_call (cn := 4) (sn := 8) (es := [.inr (0, [.null, .ref (b + 1), .null, .null, .null])] ++ esX2 cI cO (b + 1)) (n := 4) (np := 0) (pc' := 23) h0 hK (fun _ h => h) (Or.inr ⟨"Greenwave", vi_179⟩) vi_180 vi_181 vi_33 rfl ⟨by decide +kernel, by decide +kernel, by decide +kernel⟩ [] [.ref (b + 4), .ref b] (ci_X2 D cI cO (b + 4)) rfl rfl rfl dX0_init_20 rfl (Nat.le_of_ble_eq_true rfl) ⟨rfl, rfl, Nat.le_of_ble_eq_true rfl, Nat.le_of_ble_eq_true rfl⟩ ⟨Nat.le_of_ble_eq_true rfl, Nat.le_of_ble_eq_true rfl⟩ ?_
  refine i_put (pc' := 26) (es := [.inr (0, [.null, .ref (b + 1), .null, .null, .null])] ++ esX2 cI cO (b + 1) ++ esX2 cI cO (b + 4)) (es' := [.inr (0, [.null, .ref (b + 1), .ref (b + 4), .null, .null])] ++ esX2 cI cO (b + 1) ++ esX2 cI cO (b + 4)) h0 hK (fun _ h => h) 0 (T := TX0) (N := 5) rfl rfl inX0 tyX0 tyX0_ok nmX0 2 (by decide) vi_207 rfl rfl rfl rfl rfl (Nat.le_of_ble_eq_true rfl) rfl dX0_init_23 rfl ?_
  refine l_aload_n (pc' := 27) h0 0 dX0_init_26 rfl rfl rfl ?_
  refine i_new (cn := 6) (sn := 12) (pc' := 30) (es := [.inr (0, [.null, .ref (b + 1), .ref (b + 4), .null, .null])] ++ esX2 cI cO (b + 1) ++ esX2 cI cO (b + 4)) (n := 7) h0 hK (T := TX2) (N := 2) (ci := 2) rfl inX2 tyX2 tyX2_ok vi_177 vi_178 vi_33 dfX2 ⟨Nat.le_of_ble_eq_true rfl, Nat.le_of_ble_eq_true rfl⟩ rfl dX0_init_27 rfl ?_
  refine l_dup (pc' := 31) h0 dX0_init_30 rfl rfl ?_
  refine i_call (cn := 7) (sn := 14) (es := [.inr (0, [.null, .ref (b + 1), .ref (b + 4), .null, .null])] ++ esX2 cI cO (b + 1) ++ esX2 cI cO (b + 4)) (n := 7) (np := 0) (pc' := 34) h0 hK (fun _ h => h) (Or.inr ⟨"Greenwave", vi_179⟩) vi_180 vi_181 vi_33 rfl ⟨by decide +kernel, by decide +kernel, by decide +kernel⟩ [] [.ref (b + 7), .ref b] (ci_X2 D cI cO (b + 7)) rfl rfl rfl dX0_init_31 rfl (Nat.le_of_ble_eq_true rfl) ⟨rfl, rfl, Nat.le_of_ble_eq_true rfl, Nat.le_of_ble_eq_true rfl⟩ ⟨Nat.le_of_ble_eq_true rfl, Nat.le_of_ble_eq_true rfl⟩ ?_
  refine i_put (pc' := 37) (es := [.inr (0, [.null, .ref (b + 1), .ref (b + 4), .null, .null])] ++ esX2 cI cO (b + 1) ++ esX2 cI cO (b + 4) ++ esX2 cI cO (b + 7)) (es' := [.inr (0, [.null, .ref (b + 1), .ref (b + 4), .ref (b + 7), .null])] ++ esX2 cI cO (b + 1) ++ esX2 cI cO (b + 4) ++ esX2 cI cO (b + 7)) h0 hK (fun _ h => h) 0 (T := TX0) (N := 5) rfl rfl inX0 tyX0 tyX0_ok nmX0 3 (by decide) vi_208 rfl rfl rfl rfl rfl (Nat.le_of_ble_eq_true rfl) rfl dX0_init_34 rfl ?_
  refine l_aload_n (pc' := 38) h0 0 dX0_init_37 rfl rfl rfl ?_
  refine i_new (cn := 9) (sn := 18) (pc' := 41) (es := [.inr (0, [.null, .ref (b + 1), .ref (b + 4), .ref (b + 7), .null])] ++ esX2 cI cO (b + 1) ++ esX2 cI cO (b + 4) ++ esX2 cI cO (b + 7)) (n := 10) h0 hK (T := TX2) (N := 2) (ci := 2) rfl inX2 tyX2 tyX2_ok vi_177 vi_178 vi_33 dfX2 ⟨Nat.le_of_ble_eq_true rfl, Nat.le_of_ble_eq_true rfl⟩ rfl dX0_init_38 rfl ?_
  refine l_dup (pc' := 42) h0 dX0_init_41 rfl rfl ?_
  refine i_call (cn := 10) (sn := 20) (es := [.inr (0, [.null, .ref (b + 1), .ref (b + 4), .ref (b + 7), .null])] ++ esX2 cI cO (b + 1) ++ esX2 cI cO (b + 4) ++ esX2 cI cO (b + 7)) (n := 10) (np := 0) (pc' := 45) h0 hK (fun _ h => h) (Or.inr ⟨"Greenwave", vi_179⟩) vi_180 vi_181 vi_33 rfl ⟨by decide +kernel, by decide +kernel, by decide +kernel⟩ [] [.ref (b + 10), .ref b] (ci_X2 D cI cO (b + 10)) rfl rfl rfl dX0_init_42 rfl (Nat.le_of_ble_eq_true rfl) ⟨rfl, rfl, Nat.le_of_ble_eq_true rfl, Nat.le_of_ble_eq_true rfl⟩ ⟨Nat.le_of_ble_eq_true rfl, Nat.le_of_ble_eq_true rfl⟩ ?_
  refine i_put (pc' := 48) (es := [.inr (0, [.null, .ref (b + 1), .ref (b + 4), .ref (b + 7), .null])] ++ esX2 cI cO (b + 1) ++ esX2 cI cO (b + 4) ++ esX2 cI cO (b + 7) ++ esX2 cI cO (b + 10)) (es' := [.inr (0, [.null, .ref (b + 1), .ref (b + 4), .ref (b + 7), .ref (b + 10)])] ++ esX2 cI cO (b + 1) ++ esX2 cI cO (b + 4) ++ esX2 cI cO (b + 7) ++ esX2 cI cO (b + 10)) h0 hK (fun _ h => h) 0 (T := TX0) (N := 5) rfl rfl inX0 tyX0 tyX0_ok nmX0 4 (by decide) vi_209 rfl rfl rfl rfl rfl (Nat.le_of_ble_eq_true rfl) rfl dX0_init_45 rfl ?_
  refine l_aload_n (pc' := 49) h0 0 dX0_init_48 rfl rfl rfl ?_
  refine l_aload_n (pc' := 50) h0 1 dX0_init_49 rfl rfl rfl ?_
  refine i_put (pc' := 53) (es := [.inr (0, [.null, .ref (b + 1), .ref (b + 4), .ref (b + 7), .ref (b + 10)])] ++ esX2 cI cO (b + 1) ++ esX2 cI cO (b + 4) ++ esX2 cI cO (b + 7) ++ esX2 cI cO (b + 10)) (es' := [.inr (0, [.ref r1, .ref (b + 1), .ref (b + 4), .ref (b + 7), .ref (b + 10)])] ++ esX2 cI cO (b + 1) ++ esX2 cI cO (b + 4) ++ esX2 cI cO (b + 7) ++ esX2 cI cO (b + 10)) h0 hK (fun _ h => h) 0 (T := TX0) (N := 5) rfl rfl inX0 tyX0 tyX0_ok nmX0 0 (by decide) vi_205 rfl rfl rfl rfl rfl (Nat.le_of_ble_eq_true rfl) rfl dX0_init_50 rfl ?_
  exact i_vret h0 hE dX0_init_53 ⟨Nat.le_of_ble_eq_true rfl, Nat.le_of_ble_eq_true rfl⟩ (fun _ h => h)
def esX1 (cI cO : ClassId) (b : Nat) : List va_E := [.inr (1, [.ref (b + 1), .int 0, .int 0]), .inl (cO, 5, .inr (.inr (.inr (.inr (va_up (va_up (va_up (va_up (va_up (fun _ => none) (Int32.toNatClampNeg 0) (some (b + 2))) (Int32.toNatClampNeg 1) (some (b + 11))) (Int32.toNatClampNeg 2) (some (b + 20))) (Int32.toNatClampNeg 3) (some (b + 29))) (Int32.toNatClampNeg 4) (some (b + 38)))))))] ++ esX3 cI cO (b + 2) ++ esX3 cI cO (b + 11) ++ esX3 cI cO (b + 20) ++ esX3 cI cO (b + 29) ++ esX3 cI cO (b + 38)
abbrev ri_X1 : Room := { frames := 3, cells := 46, slots := 1025, locals := 60 }
theorem ci_X1 (D : va_G) (cI cO : ClassId) (b : Nat) : ctI yX1_init cX1_init 2 ri_X1 46 1025 D clC [(cI, .int), (cO, .object "Greenwave$Junction")] b [.ref b] [.inr (1, dfX1_)] (hq D clC b (esX1 cI cO b)) := by
  refine cti_of (own := RX1) (L := [(0, .ref b)]) (by decide +kernel) rfl rfl (Nat.le_of_ble_eq_true rfl) rfl (fun X h0 hK hE => ?_)
  unfold dfX1_
  refine l_aload_n (pc' := 1) h0 0 dX1_init_0 rfl rfl rfl ?_
  refine i_obj (pc' := 4) h0 vi_58 vi_51 vi_52 dX1_init_1 rfl (Nat.le_of_ble_eq_true rfl) ⟨Nat.le_of_ble_eq_true rfl, Nat.le_of_ble_eq_true rfl⟩ ?_
  refine l_aload_n (pc' := 5) h0 0 dX1_init_4 rfl rfl rfl ?_
  refine l_iconst (pc' := 6) h0 dX1_init_5 ki_5 rfl ?_
  refine i_anew (cn := 0) (sn := 0) (pc' := 9) (es := [.inr (1, [.null, .int 0, .int 0])]) (N := 5) (n := 1) h0 hK 1 rfl vi_59 rfl (by decide) (by decide +kernel) (Nat.le_of_ble_eq_true rfl) ⟨Nat.le_of_ble_eq_true rfl, Nat.le_of_ble_eq_true rfl⟩ rfl dX1_init_6 rfl ?_
  refine i_put (pc' := 12) (es := [.inr (1, [.null, .int 0, .int 0]), .inl (cO, 5, .inr (.inr (.inr (.inr (fun _ => none)))))]) (es' := [.inr (1, [.ref (b + 1), .int 0, .int 0]), .inl (cO, 5, .inr (.inr (.inr (.inr (fun _ => none)))))]) h0 hK (fun _ h => h) 0 (T := TX1) (N := 3) rfl rfl inX1 tyX1 tyX1_ok nmX1 0 (by decide) vi_156 rfl rfl rfl rfl rfl (Nat.le_of_ble_eq_true rfl) rfl dX1_init_9 rfl ?_
  refine l_iconst (pc' := 13) h0 dX1_init_12 ki_0 rfl ?_
  refine l_istore_n (pc' := 14) (L' := [(1, .int 0), (0, .ref b)]) h0 dX1_init_13 rfl (Nat.le_of_ble_eq_true rfl) rfl rfl ?_
  refine l_iload_n (pc' := 15) h0 0 dX1_init_14 rfl rfl rfl ?_
  refine l_aload_n (pc' := 16) h0 1 dX1_init_15 rfl rfl rfl ?_
  refine i_get (pc' := 19) h0 hK 0 (T := TX1) (N := 3) rfl rfl inX1 0 (by decide) vi_156 rfl rfl dX1_init_16 rfl ?_
  refine i_alen (pc' := 20) (v := 5) h0 hK 1 1 rfl rfl rfl dX1_init_19 rfl ?_
  refine i_lt (pc' := 23) h0 42 dX1_init_20 rfl rfl (by decide) ?_
  refine l_aload_n (pc' := 24) h0 1 dX1_init_23 rfl rfl rfl ?_
  refine i_get (pc' := 27) h0 hK 0 (T := TX1) (N := 3) rfl rfl inX1 0 (by decide) vi_156 rfl rfl dX1_init_24 rfl ?_
  refine l_iload_n (pc' := 28) h0 0 dX1_init_27 rfl rfl rfl ?_
  refine i_new (cn := 1) (sn := 5) (pc' := 31) (es := [.inr (1, [.ref (b + 1), .int 0, .int 0]), .inl (cO, 5, .inr (.inr (.inr (.inr (fun _ => none)))))]) (n := 2) h0 hK (T := TX3) (N := 17) (ci := 3) rfl inX3 tyX3 tyX3_ok vi_59 vi_61 vi_30 dfX3 ⟨Nat.le_of_ble_eq_true rfl, Nat.le_of_ble_eq_true rfl⟩ rfl dX1_init_28 rfl ?_
  refine l_dup (pc' := 32) h0 dX1_init_31 rfl rfl ?_
  refine i_call (cn := 2) (sn := 22) (es := [.inr (1, [.ref (b + 1), .int 0, .int 0]), .inl (cO, 5, .inr (.inr (.inr (.inr (fun _ => none)))))]) (n := 2) (np := 0) (pc' := 35) h0 hK (fun _ h => h) (Or.inr ⟨"Greenwave", vi_62⟩) vi_63 vi_64 vi_30 rfl ⟨by decide +kernel, by decide +kernel, by decide +kernel⟩ [] [.ref (b + 2), .int 0, .ref (b + 1)] (ci_X3 D cI cO (b + 2)) rfl rfl rfl dX1_init_32 rfl (Nat.le_of_ble_eq_true rfl) ⟨rfl, rfl, Nat.le_of_ble_eq_true rfl, Nat.le_of_ble_eq_true rfl⟩ ⟨Nat.le_of_ble_eq_true rfl, Nat.le_of_ble_eq_true rfl⟩ ?_
  refine i_aast (pc' := 36) (es := [.inr (1, [.ref (b + 1), .int 0, .int 0]), .inl (cO, 5, .inr (.inr (.inr (.inr (fun _ => none)))))] ++ esX3 cI cO (b + 2)) (es' := [.inr (1, [.ref (b + 1), .int 0, .int 0]), .inl (cO, 5, .inr (.inr (.inr (.inr (va_up (fun _ => none) (Int32.toNatClampNeg 0) (some (b + 2)))))))] ++ esX3 cI cO (b + 2)) h0 hK (fun _ h => h) 1 2 1 rfl rfl rfl rfl (by decide +kernel) rfl dX1_init_35 rfl ?_
  refine l_iinc (pc' := 39) (v := 1) (L' := [(1, .int 1), (0, .ref b)]) h0 0 dX1_init_36 rfl (by decide +kernel) (Nat.le_of_ble_eq_true rfl) (by rfl) rfl ?_
  refine l_goto (pc' := 14) h0 dX1_init_39 rfl ?_
  refine l_iload_n (pc' := 15) h0 0 dX1_init_14 rfl rfl rfl ?_
  refine l_aload_n (pc' := 16) h0 1 dX1_init_15 rfl rfl rfl ?_
  refine i_get (pc' := 19) h0 hK 0 (T := TX1) (N := 3) rfl rfl inX1 0 (by decide) vi_156 rfl rfl dX1_init_16 rfl ?_
  refine i_alen (pc' := 20) (v := 5) h0 hK 1 1 rfl rfl rfl dX1_init_19 rfl ?_
  refine i_lt (pc' := 23) h0 42 dX1_init_20 rfl rfl (by decide) ?_
  refine l_aload_n (pc' := 24) h0 1 dX1_init_23 rfl rfl rfl ?_
  refine i_get (pc' := 27) h0 hK 0 (T := TX1) (N := 3) rfl rfl inX1 0 (by decide) vi_156 rfl rfl dX1_init_24 rfl ?_
  refine l_iload_n (pc' := 28) h0 0 dX1_init_27 rfl rfl rfl ?_
  refine i_new (cn := 10) (sn := 209) (pc' := 31) (es := [.inr (1, [.ref (b + 1), .int 0, .int 0]), .inl (cO, 5, .inr (.inr (.inr (.inr (va_up (fun _ => none) (Int32.toNatClampNeg 0) (some (b + 2)))))))] ++ esX3 cI cO (b + 2)) (n := 11) h0 hK (T := TX3) (N := 17) (ci := 3) rfl inX3 tyX3 tyX3_ok vi_59 vi_61 vi_30 dfX3 ⟨Nat.le_of_ble_eq_true rfl, Nat.le_of_ble_eq_true rfl⟩ rfl dX1_init_28 rfl ?_
  refine l_dup (pc' := 32) h0 dX1_init_31 rfl rfl ?_
  refine i_call (cn := 11) (sn := 226) (es := [.inr (1, [.ref (b + 1), .int 0, .int 0]), .inl (cO, 5, .inr (.inr (.inr (.inr (va_up (fun _ => none) (Int32.toNatClampNeg 0) (some (b + 2)))))))] ++ esX3 cI cO (b + 2)) (n := 11) (np := 0) (pc' := 35) h0 hK (fun _ h => h) (Or.inr ⟨"Greenwave", vi_62⟩) vi_63 vi_64 vi_30 rfl ⟨by decide +kernel, by decide +kernel, by decide +kernel⟩ [] [.ref (b + 11), .int 1, .ref (b + 1)] (ci_X3 D cI cO (b + 11)) rfl rfl rfl dX1_init_32 rfl (Nat.le_of_ble_eq_true rfl) ⟨rfl, rfl, Nat.le_of_ble_eq_true rfl, Nat.le_of_ble_eq_true rfl⟩ ⟨Nat.le_of_ble_eq_true rfl, Nat.le_of_ble_eq_true rfl⟩ ?_
  refine i_aast (pc' := 36) (es := [.inr (1, [.ref (b + 1), .int 0, .int 0]), .inl (cO, 5, .inr (.inr (.inr (.inr (va_up (fun _ => none) (Int32.toNatClampNeg 0) (some (b + 2)))))))] ++ esX3 cI cO (b + 2) ++ esX3 cI cO (b + 11)) (es' := [.inr (1, [.ref (b + 1), .int 0, .int 0]), .inl (cO, 5, .inr (.inr (.inr (.inr (va_up (va_up (fun _ => none) (Int32.toNatClampNeg 0) (some (b + 2))) (Int32.toNatClampNeg 1) (some (b + 11)))))))] ++ esX3 cI cO (b + 2) ++ esX3 cI cO (b + 11)) h0 hK (fun _ h => h) 1 11 1 rfl rfl rfl rfl (by decide +kernel) rfl dX1_init_35 rfl ?_
  refine l_iinc (pc' := 39) (v := 1) (L' := [(1, .int 2), (0, .ref b)]) h0 0 dX1_init_36 rfl (by decide +kernel) (Nat.le_of_ble_eq_true rfl) (by rfl) rfl ?_
  refine l_goto (pc' := 14) h0 dX1_init_39 rfl ?_
  refine l_iload_n (pc' := 15) h0 0 dX1_init_14 rfl rfl rfl ?_
  refine l_aload_n (pc' := 16) h0 1 dX1_init_15 rfl rfl rfl ?_
  refine i_get (pc' := 19) h0 hK 0 (T := TX1) (N := 3) rfl rfl inX1 0 (by decide) vi_156 rfl rfl dX1_init_16 rfl ?_
  refine i_alen (pc' := 20) (v := 5) h0 hK 1 1 rfl rfl rfl dX1_init_19 rfl ?_
  refine i_lt (pc' := 23) h0 42 dX1_init_20 rfl rfl (by decide) ?_
  refine l_aload_n (pc' := 24) h0 1 dX1_init_23 rfl rfl rfl ?_
  refine i_get (pc' := 27) h0 hK 0 (T := TX1) (N := 3) rfl rfl inX1 0 (by decide) vi_156 rfl rfl dX1_init_24 rfl ?_
  refine l_iload_n (pc' := 28) h0 0 dX1_init_27 rfl rfl rfl ?_
  refine i_new (cn := 19) (sn := 413) (pc' := 31) (es := [.inr (1, [.ref (b + 1), .int 0, .int 0]), .inl (cO, 5, .inr (.inr (.inr (.inr (va_up (va_up (fun _ => none) (Int32.toNatClampNeg 0) (some (b + 2))) (Int32.toNatClampNeg 1) (some (b + 11)))))))] ++ esX3 cI cO (b + 2) ++ esX3 cI cO (b + 11)) (n := 20) h0 hK (T := TX3) (N := 17) (ci := 3) rfl inX3 tyX3 tyX3_ok vi_59 vi_61 vi_30 dfX3 ⟨Nat.le_of_ble_eq_true rfl, Nat.le_of_ble_eq_true rfl⟩ rfl dX1_init_28 rfl ?_
  refine l_dup (pc' := 32) h0 dX1_init_31 rfl rfl ?_
  refine i_call (cn := 20) (sn := 430) (es := [.inr (1, [.ref (b + 1), .int 0, .int 0]), .inl (cO, 5, .inr (.inr (.inr (.inr (va_up (va_up (fun _ => none) (Int32.toNatClampNeg 0) (some (b + 2))) (Int32.toNatClampNeg 1) (some (b + 11)))))))] ++ esX3 cI cO (b + 2) ++ esX3 cI cO (b + 11)) (n := 20) (np := 0) (pc' := 35) h0 hK (fun _ h => h) (Or.inr ⟨"Greenwave", vi_62⟩) vi_63 vi_64 vi_30 rfl ⟨by decide +kernel, by decide +kernel, by decide +kernel⟩ [] [.ref (b + 20), .int 2, .ref (b + 1)] (ci_X3 D cI cO (b + 20)) rfl rfl rfl dX1_init_32 rfl (Nat.le_of_ble_eq_true rfl) ⟨rfl, rfl, Nat.le_of_ble_eq_true rfl, Nat.le_of_ble_eq_true rfl⟩ ⟨Nat.le_of_ble_eq_true rfl, Nat.le_of_ble_eq_true rfl⟩ ?_
  refine i_aast (pc' := 36) (es := [.inr (1, [.ref (b + 1), .int 0, .int 0]), .inl (cO, 5, .inr (.inr (.inr (.inr (va_up (va_up (fun _ => none) (Int32.toNatClampNeg 0) (some (b + 2))) (Int32.toNatClampNeg 1) (some (b + 11)))))))] ++ esX3 cI cO (b + 2) ++ esX3 cI cO (b + 11) ++ esX3 cI cO (b + 20)) (es' := [.inr (1, [.ref (b + 1), .int 0, .int 0]), .inl (cO, 5, .inr (.inr (.inr (.inr (va_up (va_up (va_up (fun _ => none) (Int32.toNatClampNeg 0) (some (b + 2))) (Int32.toNatClampNeg 1) (some (b + 11))) (Int32.toNatClampNeg 2) (some (b + 20)))))))] ++ esX3 cI cO (b + 2) ++ esX3 cI cO (b + 11) ++ esX3 cI cO (b + 20)) h0 hK (fun _ h => h) 1 20 1 rfl rfl rfl rfl (by decide +kernel) rfl dX1_init_35 rfl ?_
  refine l_iinc (pc' := 39) (v := 1) (L' := [(1, .int 3), (0, .ref b)]) h0 0 dX1_init_36 rfl (by decide +kernel) (Nat.le_of_ble_eq_true rfl) (by rfl) rfl ?_
  refine l_goto (pc' := 14) h0 dX1_init_39 rfl ?_
  refine l_iload_n (pc' := 15) h0 0 dX1_init_14 rfl rfl rfl ?_
  refine l_aload_n (pc' := 16) h0 1 dX1_init_15 rfl rfl rfl ?_
  refine i_get (pc' := 19) h0 hK 0 (T := TX1) (N := 3) rfl rfl inX1 0 (by decide) vi_156 rfl rfl dX1_init_16 rfl ?_
  refine i_alen (pc' := 20) (v := 5) h0 hK 1 1 rfl rfl rfl dX1_init_19 rfl ?_
  refine i_lt (pc' := 23) h0 42 dX1_init_20 rfl rfl (by decide) ?_
  refine l_aload_n (pc' := 24) h0 1 dX1_init_23 rfl rfl rfl ?_
  refine i_get (pc' := 27) h0 hK 0 (T := TX1) (N := 3) rfl rfl inX1 0 (by decide) vi_156 rfl rfl dX1_init_24 rfl ?_
  refine l_iload_n (pc' := 28) h0 0 dX1_init_27 rfl rfl rfl ?_
  refine i_new (cn := 28) (sn := 617) (pc' := 31) (es := [.inr (1, [.ref (b + 1), .int 0, .int 0]), .inl (cO, 5, .inr (.inr (.inr (.inr (va_up (va_up (va_up (fun _ => none) (Int32.toNatClampNeg 0) (some (b + 2))) (Int32.toNatClampNeg 1) (some (b + 11))) (Int32.toNatClampNeg 2) (some (b + 20)))))))] ++ esX3 cI cO (b + 2) ++ esX3 cI cO (b + 11) ++ esX3 cI cO (b + 20)) (n := 29) h0 hK (T := TX3) (N := 17) (ci := 3) rfl inX3 tyX3 tyX3_ok vi_59 vi_61 vi_30 dfX3 ⟨Nat.le_of_ble_eq_true rfl, Nat.le_of_ble_eq_true rfl⟩ rfl dX1_init_28 rfl ?_
  refine l_dup (pc' := 32) h0 dX1_init_31 rfl rfl ?_
  refine i_call (cn := 29) (sn := 634) (es := [.inr (1, [.ref (b + 1), .int 0, .int 0]), .inl (cO, 5, .inr (.inr (.inr (.inr (va_up (va_up (va_up (fun _ => none) (Int32.toNatClampNeg 0) (some (b + 2))) (Int32.toNatClampNeg 1) (some (b + 11))) (Int32.toNatClampNeg 2) (some (b + 20)))))))] ++ esX3 cI cO (b + 2) ++ esX3 cI cO (b + 11) ++ esX3 cI cO (b + 20)) (n := 29) (np := 0) (pc' := 35) h0 hK (fun _ h => h) (Or.inr ⟨"Greenwave", vi_62⟩) vi_63 vi_64 vi_30 rfl ⟨by decide +kernel, by decide +kernel, by decide +kernel⟩ [] [.ref (b + 29), .int 3, .ref (b + 1)] (ci_X3 D cI cO (b + 29)) rfl rfl rfl dX1_init_32 rfl (Nat.le_of_ble_eq_true rfl) ⟨rfl, rfl, Nat.le_of_ble_eq_true rfl, Nat.le_of_ble_eq_true rfl⟩ ⟨Nat.le_of_ble_eq_true rfl, Nat.le_of_ble_eq_true rfl⟩ ?_
  refine i_aast (pc' := 36) (es := [.inr (1, [.ref (b + 1), .int 0, .int 0]), .inl (cO, 5, .inr (.inr (.inr (.inr (va_up (va_up (va_up (fun _ => none) (Int32.toNatClampNeg 0) (some (b + 2))) (Int32.toNatClampNeg 1) (some (b + 11))) (Int32.toNatClampNeg 2) (some (b + 20)))))))] ++ esX3 cI cO (b + 2) ++ esX3 cI cO (b + 11) ++ esX3 cI cO (b + 20) ++ esX3 cI cO (b + 29)) (es' := [.inr (1, [.ref (b + 1), .int 0, .int 0]), .inl (cO, 5, .inr (.inr (.inr (.inr (va_up (va_up (va_up (va_up (fun _ => none) (Int32.toNatClampNeg 0) (some (b + 2))) (Int32.toNatClampNeg 1) (some (b + 11))) (Int32.toNatClampNeg 2) (some (b + 20))) (Int32.toNatClampNeg 3) (some (b + 29)))))))] ++ esX3 cI cO (b + 2) ++ esX3 cI cO (b + 11) ++ esX3 cI cO (b + 20) ++ esX3 cI cO (b + 29)) h0 hK (fun _ h => h) 1 29 1 rfl rfl rfl rfl (by decide +kernel) rfl dX1_init_35 rfl ?_
  refine l_iinc (pc' := 39) (v := 1) (L' := [(1, .int 4), (0, .ref b)]) h0 0 dX1_init_36 rfl (by decide +kernel) (Nat.le_of_ble_eq_true rfl) (by rfl) rfl ?_
  refine l_goto (pc' := 14) h0 dX1_init_39 rfl ?_
  refine l_iload_n (pc' := 15) h0 0 dX1_init_14 rfl rfl rfl ?_
  refine l_aload_n (pc' := 16) h0 1 dX1_init_15 rfl rfl rfl ?_
  refine i_get (pc' := 19) h0 hK 0 (T := TX1) (N := 3) rfl rfl inX1 0 (by decide) vi_156 rfl rfl dX1_init_16 rfl ?_
  refine i_alen (pc' := 20) (v := 5) h0 hK 1 1 rfl rfl rfl dX1_init_19 rfl ?_
  refine i_lt (pc' := 23) h0 42 dX1_init_20 rfl rfl (by decide) ?_
  refine l_aload_n (pc' := 24) h0 1 dX1_init_23 rfl rfl rfl ?_
  refine i_get (pc' := 27) h0 hK 0 (T := TX1) (N := 3) rfl rfl inX1 0 (by decide) vi_156 rfl rfl dX1_init_24 rfl ?_
  refine l_iload_n (pc' := 28) h0 0 dX1_init_27 rfl rfl rfl ?_
  refine i_new (cn := 37) (sn := 821) (pc' := 31) (es := [.inr (1, [.ref (b + 1), .int 0, .int 0]), .inl (cO, 5, .inr (.inr (.inr (.inr (va_up (va_up (va_up (va_up (fun _ => none) (Int32.toNatClampNeg 0) (some (b + 2))) (Int32.toNatClampNeg 1) (some (b + 11))) (Int32.toNatClampNeg 2) (some (b + 20))) (Int32.toNatClampNeg 3) (some (b + 29)))))))] ++ esX3 cI cO (b + 2) ++ esX3 cI cO (b + 11) ++ esX3 cI cO (b + 20) ++ esX3 cI cO (b + 29)) (n := 38) h0 hK (T := TX3) (N := 17) (ci := 3) rfl inX3 tyX3 tyX3_ok vi_59 vi_61 vi_30 dfX3 ⟨Nat.le_of_ble_eq_true rfl, Nat.le_of_ble_eq_true rfl⟩ rfl dX1_init_28 rfl ?_
  refine l_dup (pc' := 32) h0 dX1_init_31 rfl rfl ?_
  refine i_call (cn := 38) (sn := 838) (es := [.inr (1, [.ref (b + 1), .int 0, .int 0]), .inl (cO, 5, .inr (.inr (.inr (.inr (va_up (va_up (va_up (va_up (fun _ => none) (Int32.toNatClampNeg 0) (some (b + 2))) (Int32.toNatClampNeg 1) (some (b + 11))) (Int32.toNatClampNeg 2) (some (b + 20))) (Int32.toNatClampNeg 3) (some (b + 29)))))))] ++ esX3 cI cO (b + 2) ++ esX3 cI cO (b + 11) ++ esX3 cI cO (b + 20) ++ esX3 cI cO (b + 29)) (n := 38) (np := 0) (pc' := 35) h0 hK (fun _ h => h) (Or.inr ⟨"Greenwave", vi_62⟩) vi_63 vi_64 vi_30 rfl ⟨by decide +kernel, by decide +kernel, by decide +kernel⟩ [] [.ref (b + 38), .int 4, .ref (b + 1)] (ci_X3 D cI cO (b + 38)) rfl rfl rfl dX1_init_32 rfl (Nat.le_of_ble_eq_true rfl) ⟨rfl, rfl, Nat.le_of_ble_eq_true rfl, Nat.le_of_ble_eq_true rfl⟩ ⟨Nat.le_of_ble_eq_true rfl, Nat.le_of_ble_eq_true rfl⟩ ?_
  refine i_aast (pc' := 36) (es := [.inr (1, [.ref (b + 1), .int 0, .int 0]), .inl (cO, 5, .inr (.inr (.inr (.inr (va_up (va_up (va_up (va_up (fun _ => none) (Int32.toNatClampNeg 0) (some (b + 2))) (Int32.toNatClampNeg 1) (some (b + 11))) (Int32.toNatClampNeg 2) (some (b + 20))) (Int32.toNatClampNeg 3) (some (b + 29)))))))] ++ esX3 cI cO (b + 2) ++ esX3 cI cO (b + 11) ++ esX3 cI cO (b + 20) ++ esX3 cI cO (b + 29) ++ esX3 cI cO (b + 38)) (es' := [.inr (1, [.ref (b + 1), .int 0, .int 0]), .inl (cO, 5, .inr (.inr (.inr (.inr (va_up (va_up (va_up (va_up (va_up (fun _ => none) (Int32.toNatClampNeg 0) (some (b + 2))) (Int32.toNatClampNeg 1) (some (b + 11))) (Int32.toNatClampNeg 2) (some (b + 20))) (Int32.toNatClampNeg 3) (some (b + 29))) (Int32.toNatClampNeg 4) (some (b + 38)))))))] ++ esX3 cI cO (b + 2) ++ esX3 cI cO (b + 11) ++ esX3 cI cO (b + 20) ++ esX3 cI cO (b + 29) ++ esX3 cI cO (b + 38)) h0 hK (fun _ h => h) 1 38 1 rfl rfl rfl rfl (by decide +kernel) rfl dX1_init_35 rfl ?_
  refine l_iinc (pc' := 39) (v := 1) (L' := [(1, .int 5), (0, .ref b)]) h0 0 dX1_init_36 rfl (by decide +kernel) (Nat.le_of_ble_eq_true rfl) (by rfl) rfl ?_
  refine l_goto (pc' := 14) h0 dX1_init_39 rfl ?_
  refine l_iload_n (pc' := 15) h0 0 dX1_init_14 rfl rfl rfl ?_
  refine l_aload_n (pc' := 16) h0 1 dX1_init_15 rfl rfl rfl ?_
  refine i_get (pc' := 19) h0 hK 0 (T := TX1) (N := 3) rfl rfl inX1 0 (by decide) vi_156 rfl rfl dX1_init_16 rfl ?_
  refine i_alen (pc' := 20) (v := 5) h0 hK 1 1 rfl rfl rfl dX1_init_19 rfl ?_
  refine i_ge (pc' := 42) h0 dX1_init_20 rfl (by decide) ?_
  exact i_vret h0 hE dX1_init_42 ⟨Nat.le_of_ble_eq_true rfl, Nat.le_of_ble_eq_true rfl⟩ (fun _ h => h)
