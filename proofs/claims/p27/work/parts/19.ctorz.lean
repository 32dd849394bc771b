theorem vi_50 : Cond.methodLink RX7 1 Lib.objectInit ∈ GW := gw_of (i := 50) (by decide +kernel) (by decide +kernel)
theorem vi_53 : Cond.classLink RX7 7 RX1 ∈ GW := gw_of (i := 53) (by decide +kernel) (by decide +kernel)
theorem vi_54 : Cond.instantiable RX1 3 ∈ GW := gw_of (i := 54) (by decide +kernel) (by decide +kernel)
theorem vi_29 : Cond.initialized RX1 ∈ GW := gw_of (i := 29) (by decide +kernel) (by decide +kernel)
theorem vi_55 : Cond.methodLink RX7 9 yX1_init ∈ GW := gw_of (i := 55) (by decide +kernel) (by decide +kernel)
theorem vi_56 : Cond.instanceMethod yX1_init ∈ GW := gw_of (i := 56) (by decide +kernel) (by decide +kernel)
theorem vi_57 : Cond.code yX1_init cX1_init 2 none ∈ GW := gw_of (i := 57) (by decide +kernel) (by decide +kernel)
theorem vi_389 : Cond.fieldLink RX7 10 RX7 "corridor" "LGreenwave$Corridor;" ∈ GW := gw_of (i := 389) (by decide +kernel) (by decide +kernel)
theorem vi_171 : Cond.classLink RX7 16 RX0 ∈ GW := gw_of (i := 171) (by decide +kernel) (by decide +kernel)
theorem vi_172 : Cond.instantiable RX0 5 ∈ GW := gw_of (i := 172) (by decide +kernel) (by decide +kernel)
theorem vi_32 : Cond.initialized RX0 ∈ GW := gw_of (i := 32) (by decide +kernel) (by decide +kernel)
theorem vi_173 : Cond.methodLink RX7 18 yX0_init ∈ GW := gw_of (i := 173) (by decide +kernel) (by decide +kernel)
theorem vi_174 : Cond.instanceMethod yX0_init ∈ GW := gw_of (i := 174) (by decide +kernel) (by decide +kernel)
theorem vi_175 : Cond.code yX0_init cX0_init 2 none ∈ GW := gw_of (i := 175) (by decide +kernel) (by decide +kernel)
theorem vi_390 : Cond.fieldLink RX7 21 RX7 "bands" "LGreenwave$Bands;" ∈ GW := gw_of (i := 390) (by decide +kernel) (by decide +kernel)
theorem vi_221 : Cond.classLink RX7 25 RX6 ∈ GW := gw_of (i := 221) (by decide +kernel) (by decide +kernel)
theorem vi_222 : Cond.instantiable RX6 6 ∈ GW := gw_of (i := 222) (by decide +kernel) (by decide +kernel)
theorem vi_35 : Cond.initialized RX6 ∈ GW := gw_of (i := 35) (by decide +kernel) (by decide +kernel)
theorem vi_223 : Cond.methodLink RX7 27 yX6_init ∈ GW := gw_of (i := 223) (by decide +kernel) (by decide +kernel)
theorem vi_224 : Cond.instanceMethod yX6_init ∈ GW := gw_of (i := 224) (by decide +kernel) (by decide +kernel)
theorem vi_225 : Cond.code yX6_init cX6_init 2 none ∈ GW := gw_of (i := 225) (by decide +kernel) (by decide +kernel)
theorem vi_391 : Cond.fieldLink RX7 28 RX7 "traffic" "LGreenwave$Traffic;" ∈ GW := gw_of (i := 391) (by decide +kernel) (by decide +kernel)
abbrev ri_X7 : Room := { frames := 6, cells := 61, slots := 1063, locals := 138 }
theorem ci_X7 (D : va_G) (cI cO : ClassId) (b : Nat) (fu : Nat) {S1 : Mem} (h : f_X1_reset fu 2 60 S00 = some ((), S1)) : ctI yX7_init cX7_init 1 ri_X7 61 1063 D clC [(cI, .int), (cO, .object "Greenwave$Junction")] b [.ref b] [.inr (7, dfX7_)] (hp (wC (gC D cI cO b)) S1) := by
  refine cti_of (own := RX7) (L := [(0, .ref b)]) (by decide +kernel) rfl rfl (Nat.le_of_ble_eq_true rfl) rfl (fun X h0 hK hE => ?_)
  unfold dfX7_
  refine l_aload_n (pc' := 1) h0 0 dX7_init_0 rfl rfl rfl ?_
  refine i_obj (pc' := 4) h0 vi_50 vi_51 vi_52 dX7_init_1 rfl (Nat.le_of_ble_eq_true rfl) ⟨Nat.le_of_ble_eq_true rfl, Nat.le_of_ble_eq_true rfl⟩ ?_
  refine l_aload_n (pc' := 5) h0 0 dX7_init_4 rfl rfl rfl ?_
  refine i_new (cn := 0) (sn := 0) (pc' := 8) (es := [.inr (7, [.null, .null, .null])]) (n := 1) h0 hK (T := TX1) (N := 3) (ci := 1) rfl inX1 tyX1 tyX1_ok vi_53 vi_54 vi_29 dfX1 ⟨Nat.le_of_ble_eq_true rfl, Nat.le_of_ble_eq_true rfl⟩ rfl dX7_init_5 rfl ?_
  refine l_dup (pc' := 9) h0 dX7_init_8 rfl rfl ?_
  refine i_call (cn := 1) (sn := 3) (es := [.inr (7, [.null, .null, .null])]) (n := 1) (np := 0) (pc' := 12) h0 hK (fun _ h => h) (Or.inl vi_55) vi_56 vi_57 vi_29 rfl ⟨by decide +kernel, by decide +kernel, by decide +kernel⟩ [] [.ref (b + 1), .ref b] (ci_X1 D cI cO (b + 1)) rfl rfl rfl dX7_init_9 rfl (Nat.le_of_ble_eq_true rfl) ⟨rfl, rfl, Nat.le_of_ble_eq_true rfl, Nat.le_of_ble_eq_true rfl⟩ ⟨Nat.le_of_ble_eq_true rfl, Nat.le_of_ble_eq_true rfl⟩ ?_
  refine i_put (pc' := 15) (es := [.inr (7, [.null, .null, .null])] ++ esX1 cI cO (b + 1)) (es' := [.inr (7, [.ref (b + 1), .null, .null])] ++ esX1 cI cO (b + 1)) h0 hK (fun _ h => h) 0 (T := TX7) (N := 3) rfl rfl inX7 tyX7 tyX7_ok nmX7 0 (by decide) vi_389 rfl rfl rfl rfl rfl (Nat.le_of_ble_eq_true rfl) rfl dX7_init_12 rfl ?_
  refine l_aload_n (pc' := 16) h0 0 dX7_init_15 rfl rfl rfl ?_
  refine i_new (cn := 47) (sn := 1028) (pc' := 19) (es := [.inr (7, [.ref (b + 1), .null, .null])] ++ esX1 cI cO (b + 1)) (n := 48) h0 hK (T := TX0) (N := 5) (ci := 0) rfl inX0 tyX0 tyX0_ok vi_171 vi_172 vi_32 dfX0 ⟨Nat.le_of_ble_eq_true rfl, Nat.le_of_ble_eq_true rfl⟩ rfl dX7_init_16 rfl ?_
  refine l_dup (pc' := 20) h0 dX7_init_19 rfl rfl ?_
  refine l_aload_n (pc' := 21) h0 0 dX7_init_20 rfl rfl rfl ?_
  refine i_get (pc' := 24) h0 hK 0 (T := TX7) (N := 3) rfl rfl inX7 0 (by decide) vi_389 rfl rfl dX7_init_21 rfl ?_
  refine i_call (cn := 48) (sn := 1033) (es := [.inr (7, [.ref (b + 1), .null, .null])] ++ esX1 cI cO (b + 1)) (n := 48) (np := 1) (pc' := 27) h0 hK (fun _ h => h) (Or.inl vi_173) vi_174 vi_175 vi_32 rfl ⟨by decide +kernel, by decide +kernel, by decide +kernel⟩ [.ref (b + 1)] [.ref (b + 48), .ref b] (ci_X0 D cI cO (b + 48) (b + 1)) rfl rfl rfl dX7_init_24 rfl (Nat.le_of_ble_eq_true rfl) ⟨rfl, rfl, Nat.le_of_ble_eq_true rfl, Nat.le_of_ble_eq_true rfl⟩ ⟨Nat.le_of_ble_eq_true rfl, Nat.le_of_ble_eq_true rfl⟩ ?_
  refine i_put (pc' := 30) (es := [.inr (7, [.ref (b + 1), .null, .null])] ++ esX1 cI cO (b + 1) ++ esX0 cI cO (b + 48) (b + 1)) (es' := [.inr (7, [.ref (b + 1), .ref (b + 48), .null])] ++ esX1 cI cO (b + 1) ++ esX0 cI cO (b + 48) (b + 1)) h0 hK (fun _ h => h) 0 (T := TX7) (N := 3) rfl rfl inX7 tyX7 tyX7_ok nmX7 1 (by decide) vi_390 rfl rfl rfl rfl rfl (Nat.le_of_ble_eq_true rfl) rfl dX7_init_27 rfl ?_
  refine l_aload_n (pc' := 31) h0 0 dX7_init_30 rfl rfl rfl ?_
  refine i_new (cn := 60) (sn := 1057) (pc' := 34) (es := [.inr (7, [.ref (b + 1), .ref (b + 48), .null])] ++ esX1 cI cO (b + 1) ++ esX0 cI cO (b + 48) (b + 1)) (n := 61) h0 hK (T := TX6) (N := 6) (ci := 6) rfl inX6 tyX6 tyX6_ok vi_221 vi_222 vi_35 dfX6 ⟨Nat.le_of_ble_eq_true rfl, Nat.le_of_ble_eq_true rfl⟩ rfl dX7_init_31 rfl ?_
  refine l_dup (pc' := 35) h0 dX7_init_34 rfl rfl ?_
  refine l_aload_n (pc' := 36) h0 0 dX7_init_35 rfl rfl rfl ?_
  refine i_get (pc' := 39) h0 hK 0 (T := TX7) (N := 3) rfl rfl inX7 0 (by decide) vi_389 rfl rfl dX7_init_36 rfl ?_
  refine i_call (cn := 61) (sn := 1063) (es := [.inr (7, [.ref (b + 1), .ref (b + 48), .null])] ++ esX1 cI cO (b + 1) ++ esX0 cI cO (b + 48) (b + 1)) (n := 61) (np := 1) (pc' := 42) h0 hK (fun _ h => h) (Or.inl vi_223) vi_224 vi_225 vi_35 rfl ⟨by decide +kernel, by decide +kernel, by decide +kernel⟩ [.ref (b + 1)] [.ref (b + 61), .ref b] (ci_X6 D cI cO (b + 61) (b + 1)) rfl rfl rfl dX7_init_39 rfl (Nat.le_of_ble_eq_true rfl) ⟨rfl, rfl, Nat.le_of_ble_eq_true rfl, Nat.le_of_ble_eq_true rfl⟩ ⟨Nat.le_of_ble_eq_true rfl, Nat.le_of_ble_eq_true rfl⟩ ?_
  refine i_put (pc' := 45) (es := [.inr (7, [.ref (b + 1), .ref (b + 48), .null])] ++ esX1 cI cO (b + 1) ++ esX0 cI cO (b + 48) (b + 1) ++ esX6 cI cO (b + 61) (b + 1)) (es' := [.inr (7, [.ref (b + 1), .ref (b + 48), .ref (b + 61)])] ++ esX1 cI cO (b + 1) ++ esX0 cI cO (b + 48) (b + 1) ++ esX6 cI cO (b + 61) (b + 1)) h0 hK (fun _ h => h) 0 (T := TX7) (N := 3) rfl rfl inX7 tyX7 tyX7_ok nmX7 2 (by decide) vi_391 rfl rfl rfl rfl rfl (Nat.le_of_ble_eq_true rfl) rfl dX7_init_42 rfl ?_
  refine l_aload_n (pc' := 46) h0 0 dX7_init_45 rfl rfl rfl ?_
  refine i_get (pc' := 49) h0 hK 0 (T := TX7) (N := 3) rfl rfl inX7 0 (by decide) vi_389 rfl rfl dX7_init_46 rfl ?_
  refine l_iconst (pc' := 50) h0 dX7_init_49 ki_2 rfl ?_
  refine l_bipush (pc' := 52) (v := 60) h0 dX7_init_50 (by decide +kernel) rfl ?_
  refine l_callV (w := wC (gC D cI cO b)) (ck := 1) (k := 0) (n := 2) (S := S00) (S' := S1) (o := none) (pc' := 55) h0 hK.1 (wok_C D cI cO b) (fun H h => hp_C h) (fun H h _ q hq => ?_) (ob_1 _) (show 0 < 1 by decide) v_250 v_251 v_252 v_253 v_29 ⟨by decide +kernel, by decide +kernel, by decide +kernel⟩ [.int 2, .int 60] [] (c_X1_reset _ fu 2 60 S00 h) rfl rfl dX7_init_52 rfl (Nat.le_of_ble_eq_true rfl) ⟨rfl, rfl, Nat.le_of_ble_eq_true rfl, Nat.le_of_ble_eq_true rfl⟩ ⟨Nat.le_of_ble_eq_true rfl, Nat.le_of_ble_eq_true rfl⟩ ?_
  · rcases hq with ⟨c, k, hk, rfl⟩ | hq
    · exact Nat.le_add_right b _
    · have := h.1; show b ≤ q; omega
  exact i_vret h0 hE dX7_init_55 ⟨Nat.le_of_ble_eq_true rfl, Nat.le_of_ble_eq_true rfl⟩ (fun H h => h.elim fun _ h => h.2.1)
