theorem lc_run {X : MX} {g : GC} {g' : GR} {cJ : ClassId} {qo b Ln : Nat} {xs : Nat → Int32} {cn sn : Nat} {i : Int32} {S SR : Mem} {o : Nat → Int64} {fu : Nat} {R : Mem → Mem → Prop} (h0 : LX RL code 7 room_1 X) (hK : KL g g' cJ qo b Ln xs X) (hi : idxOK i Ln) (hcn : cn + 5 ≤ room_1.cells) (hsn : sn + 30 ≤ room_1.slots) (hS : Sim_run fu R) (hR : R S SR) (k9 : ∀ (S' SR' : Mem) (o' : Nat → Int64), R S' SR' → LV X (AL X) 7 (cn + 5) (sn + 30) (hL g g' cJ qo S' SR' o') (LB g g' qo b i) 1506 []) : LV X (AL X) 7 cn sn (hL g g' cJ qo S SR o) (LB g g' qo b i) 1175 [] := by
  obtain ⟨hi0, hi1, hi2, hi3, hi4, hi5⟩ := hi
  obtain ⟨z, S2, y, SR2, k, e1, e2, e3, e4, e5, e6⟩ := hS S SR (xs (i + 1).toNatClampNeg) hR
  refine l_aload_n (pc' := 1176) h0 1 dw_1175 rfl rfl rfl ?_
  refine l_aload_n (pc' := 1177) h0 0 dw_1176 rfl rfl rfl ?_
  refine l_iload (pc' := 1179) h0 4 dw_1177 rfl rfl ?_
  refine l_iconst (pc' := 1180) h0 dw_1179 ki_1 rfl ?_
  refine l_iadd (pc' := 1181) h0 dw_1180 rfl ?_
  refine s_ld (pc' := 1182) h0 hK hi1 dw_1181 rfl ?_
  refine l_aload_n (pc' := 1183) h0 3 dw_1182 rfl rfl rfl ?_
  refine l_callW (pc' := 1186) (n := 3) h0 hK vm_787 vm_788 vm_59 vm_789 ⟨by decide +kernel, by decide +kernel, by decide +kernel⟩ [.ref (wA (wC g) 7 0), .int (xs (i + 1).toNatClampNeg), .ref qo] [] (cw_run g cJ qo fu (xs (i + 1).toNatClampNeg) S o e1 e2) rfl rfl dw_1183 rfl (Nat.le_of_ble_eq_true rfl) ⟨rfl, rfl, Nat.le_of_ble_eq_true rfl, Nat.le_of_ble_eq_true rfl⟩ ⟨lcb hcn 2 (by decide), lcb hsn 12 (by decide)⟩ ?_
  refine l_istore (pc' := 1188) (L' := [(5, .int k), (0, .ref b), (1, .ref (wA (wC g) 7 0)), (2, .ref (wA (wR g') 8 0)), (3, .ref qo), (4, .int i)]) h0 dw_1186 (Nat.le_of_ble_eq_true rfl) rfl rfl ?_
  refine l_aload_n (pc' := 1189) h0 3 dw_1188 rfl rfl rfl ?_
  refine l_aload_n (pc' := 1190) h0 1 dw_1189 rfl rfl rfl ?_
  refine l_iload (pc' := 1192) h0 5 dw_1190 rfl rfl ?_
  refine l_iconst (pc' := 1193) h0 dw_1192 ki_1 rfl ?_
  refine l_iadd (pc' := 1194) h0 dw_1193 rfl ?_
  refine s_ld (pc' := 1195) h0 hK hi1 dw_1194 rfl ?_
  refine l_callM (pc' := 1198) (n := 1) h0 hK vm_1171 vm_1172 vm_1173 vm_1174 vm_74 ⟨by decide +kernel, by decide +kernel, by decide +kernel⟩ [.int (xs (i + 1).toNatClampNeg)] [] (c_X8_run g' fu (xs (i + 1).toNatClampNeg) SR e3) rfl rfl dw_1195 rfl (Nat.le_of_ble_eq_true rfl) ⟨rfl, rfl, Nat.le_of_ble_eq_true rfl, Nat.le_of_ble_eq_true rfl⟩ ⟨lcb hcn 2 (by decide), lcb hsn 12 (by decide)⟩ ?_
  refine l_istore (pc' := 1200) (L' := [(6, .int y), (5, .int k), (0, .ref b), (1, .ref (wA (wC g) 7 0)), (2, .ref (wA (wR g') 8 0)), (3, .ref qo), (4, .int i)]) h0 dw_1198 (Nat.le_of_ble_eq_true rfl) rfl rfl ?_
  refine l_aload_n (pc' := 1201) h0 4 dw_1200 rfl rfl rfl ?_
  refine l_callM (pc' := 1204) (n := 0) h0 hK vm_1002 vm_1003 vm_1004 vm_1005 vm_74 ⟨by decide +kernel, by decide +kernel, by decide +kernel⟩ [] [] (c_X8_thrown g' fu SR2 rfl) rfl rfl dw_1201 rfl (Nat.le_of_ble_eq_true rfl) ⟨rfl, rfl, Nat.le_of_ble_eq_true rfl, Nat.le_of_ble_eq_true rfl⟩ ⟨lcb hcn 2 (by decide), lcb hsn 12 (by decide)⟩ ?_
  refine l_iload (pc' := 1206) h0 1 dw_1204 rfl rfl ?_
  refine l_ic_eq (pt := 1211) h0 dw_1206 rfl e4 ?_
  refine l_iload (pc' := 1213) h0 1 dw_1211 rfl rfl ?_
  refine l_if_ne (pt := 1228) (pf := 1216) h0 dw_1213 rfl rfl (fun _ => ?_) (fun c => ?_)
  · exact l_goto (pc' := 1506) h0 dw_1228 rfl (l_widen (lcw cn 2 5 (by decide)) (lcw sn 12 30 (by decide)) (l_sub [2, 3, 4, 5, 6] rfl (k9 S2 SR2 _ e6)))
  · subst c
    obtain ⟨v, rfl⟩ := hc2_zero e2
    obtain rfl := e5 v rfl
    refine l_aload_n (pc' := 1217) h0 5 dw_1216 rfl rfl rfl ?_
    refine l_iconst (pc' := 1218) h0 dw_1217 ki_0 rfl ?_
    refine s_out (pc' := 1219) h0 hK dw_1218 rfl ?_
    refine l_iload (pc' := 1221) h0 0 dw_1219 rfl rfl ?_
    refine l_i2l (pc' := 1222) h0 dw_1221 rfl ?_
    refine l_lcmp (pc' := 1223) h0 dw_1222 rfl ?_
    refine t_eqT (pc' := 1228) h0 dw_1223 rfl (by exact lg_self _) ?_
    exact l_goto (pc' := 1506) h0 dw_1228 rfl (l_widen (lcw cn 2 5 (by decide)) (lcw sn 12 30 (by decide)) (l_sub [2, 3, 4, 5, 6] rfl (k9 S2 SR2 _ e6)))
theorem lc_callBus {X : MX} {g : GC} {g' : GR} {cJ : ClassId} {qo b Ln : Nat} {xs : Nat → Int32} {cn sn : Nat} {i : Int32} {S SR : Mem} {o : Nat → Int64} {fu : Nat} {R : Mem → Mem → Prop} (h0 : LX RL code 7 room_1 X) (hK : KL g g' cJ qo b Ln xs X) (hi : idxOK i Ln) (hcn : cn + 5 ≤ room_1.cells) (hsn : sn + 30 ≤ room_1.slots) (hS : Sim_callBus fu R) (hR : R S SR) (k9 : ∀ (S' SR' : Mem) (o' : Nat → Int64), R S' SR' → LV X (AL X) 7 (cn + 5) (sn + 30) (hL g g' cJ qo S' SR' o') (LB g g' qo b i) 1506 []) : LV X (AL X) 7 cn sn (hL g g' cJ qo S SR o) (LB g g' qo b i) 1231 [] := by
  obtain ⟨hi0, hi1, hi2, hi3, hi4, hi5⟩ := hi
  obtain ⟨z, S2, y, SR2, k, e1, e2, e3, e4, e5, e6⟩ := hS S SR (xs (i + 1).toNatClampNeg) (xs (i + 2).toNatClampNeg) hR
  refine l_aload_n (pc' := 1232) h0 1 dw_1231 rfl rfl rfl ?_
  refine l_aload_n (pc' := 1233) h0 0 dw_1232 rfl rfl rfl ?_
  refine l_iload (pc' := 1235) h0 4 dw_1233 rfl rfl ?_
  refine l_iconst (pc' := 1236) h0 dw_1235 ki_1 rfl ?_
  refine l_iadd (pc' := 1237) h0 dw_1236 rfl ?_
  refine s_ld (pc' := 1238) h0 hK hi1 dw_1237 rfl ?_
  refine l_aload_n (pc' := 1239) h0 0 dw_1238 rfl rfl rfl ?_
  refine l_iload (pc' := 1241) h0 4 dw_1239 rfl rfl ?_
  refine l_iconst (pc' := 1242) h0 dw_1241 ki_2 rfl ?_
  refine l_iadd (pc' := 1243) h0 dw_1242 rfl ?_
  refine s_ld (pc' := 1244) h0 hK hi2 dw_1243 rfl ?_
  refine l_aload_n (pc' := 1245) h0 3 dw_1244 rfl rfl rfl ?_
  refine l_callW (pc' := 1248) (n := 4) h0 hK vm_859 vm_860 vm_59 vm_861 ⟨by decide +kernel, by decide +kernel, by decide +kernel⟩ [.ref (wA (wC g) 7 0), .int (xs (i + 1).toNatClampNeg), .int (xs (i + 2).toNatClampNeg), .ref qo] [] (cw_callBus g cJ qo fu (xs (i + 1).toNatClampNeg) (xs (i + 2).toNatClampNeg) S o e1 e2) rfl rfl dw_1245 rfl (Nat.le_of_ble_eq_true rfl) ⟨rfl, rfl, Nat.le_of_ble_eq_true rfl, Nat.le_of_ble_eq_true rfl⟩ ⟨lcb hcn 4 (by decide), lcb hsn 24 (by decide)⟩ ?_
  refine l_istore (pc' := 1250) (L' := [(5, .int k), (0, .ref b), (1, .ref (wA (wC g) 7 0)), (2, .ref (wA (wR g') 8 0)), (3, .ref qo), (4, .int i)]) h0 dw_1248 (Nat.le_of_ble_eq_true rfl) rfl rfl ?_
  refine l_aload_n (pc' := 1251) h0 3 dw_1250 rfl rfl rfl ?_
  refine l_aload_n (pc' := 1252) h0 1 dw_1251 rfl rfl rfl ?_
  refine l_iload (pc' := 1254) h0 5 dw_1252 rfl rfl ?_
  refine l_iconst (pc' := 1255) h0 dw_1254 ki_1 rfl ?_
  refine l_iadd (pc' := 1256) h0 dw_1255 rfl ?_
  refine s_ld (pc' := 1257) h0 hK hi1 dw_1256 rfl ?_
  refine l_aload_n (pc' := 1258) h0 1 dw_1257 rfl rfl rfl ?_
  refine l_iload (pc' := 1260) h0 5 dw_1258 rfl rfl ?_
  refine l_iconst (pc' := 1261) h0 dw_1260 ki_2 rfl ?_
  refine l_iadd (pc' := 1262) h0 dw_1261 rfl ?_
  refine s_ld (pc' := 1263) h0 hK hi2 dw_1262 rfl ?_
  refine l_callM (pc' := 1266) (n := 2) h0 hK vm_1191 vm_1192 vm_1193 vm_1194 vm_74 ⟨by decide +kernel, by decide +kernel, by decide +kernel⟩ [.int (xs (i + 1).toNatClampNeg), .int (xs (i + 2).toNatClampNeg)] [] (c_X8_callBus g' fu (xs (i + 1).toNatClampNeg) (xs (i + 2).toNatClampNeg) SR e3) rfl rfl dw_1263 rfl (Nat.le_of_ble_eq_true rfl) ⟨rfl, rfl, Nat.le_of_ble_eq_true rfl, Nat.le_of_ble_eq_true rfl⟩ ⟨lcb hcn 4 (by decide), lcb hsn 24 (by decide)⟩ ?_
  refine l_istore (pc' := 1268) (L' := [(6, .int y), (5, .int k), (0, .ref b), (1, .ref (wA (wC g) 7 0)), (2, .ref (wA (wR g') 8 0)), (3, .ref qo), (4, .int i)]) h0 dw_1266 (Nat.le_of_ble_eq_true rfl) rfl rfl ?_
  refine l_aload_n (pc' := 1269) h0 4 dw_1268 rfl rfl rfl ?_
  refine l_callM (pc' := 1272) (n := 0) h0 hK vm_1002 vm_1003 vm_1004 vm_1005 vm_74 ⟨by decide +kernel, by decide +kernel, by decide +kernel⟩ [] [] (c_X8_thrown g' fu SR2 rfl) rfl rfl dw_1269 rfl (Nat.le_of_ble_eq_true rfl) ⟨rfl, rfl, Nat.le_of_ble_eq_true rfl, Nat.le_of_ble_eq_true rfl⟩ ⟨lcb hcn 4 (by decide), lcb hsn 24 (by decide)⟩ ?_
  refine l_iload (pc' := 1274) h0 1 dw_1272 rfl rfl ?_
  refine l_ic_eq (pt := 1279) h0 dw_1274 rfl e4 ?_
  refine l_iload (pc' := 1281) h0 1 dw_1279 rfl rfl ?_
  refine l_if_ne (pt := 1296) (pf := 1284) h0 dw_1281 rfl rfl (fun _ => ?_) (fun c => ?_)
  · exact l_goto (pc' := 1506) h0 dw_1296 rfl (l_widen (lcw cn 4 5 (by decide)) (lcw sn 24 30 (by decide)) (l_sub [2, 3, 4, 5, 6] rfl (k9 S2 SR2 _ e6)))
  · subst c
    obtain ⟨v, rfl⟩ := hc2_zero e2
    obtain rfl := e5 v rfl
    refine l_aload_n (pc' := 1285) h0 5 dw_1284 rfl rfl rfl ?_
    refine l_iconst (pc' := 1286) h0 dw_1285 ki_0 rfl ?_
    refine s_out (pc' := 1287) h0 hK dw_1286 rfl ?_
    refine l_iload (pc' := 1289) h0 0 dw_1287 rfl rfl ?_
    refine l_i2l (pc' := 1290) h0 dw_1289 rfl ?_
    refine l_lcmp (pc' := 1291) h0 dw_1290 rfl ?_
    refine t_eqT (pc' := 1296) h0 dw_1291 rfl (by exact lg_self _) ?_
    exact l_goto (pc' := 1506) h0 dw_1296 rfl (l_widen (lcw cn 4 5 (by decide)) (lcw sn 24 30 (by decide)) (l_sub [2, 3, 4, 5, 6] rfl (k9 S2 SR2 _ e6)))
theorem lc_clock {X : MX} {g : GC} {g' : GR} {cJ : ClassId} {qo b Ln : Nat} {xs : Nat → Int32} {cn sn : Nat} {i : Int32} {S SR : Mem} {o : Nat → Int64} {fu : Nat} {R : Mem → Mem → Prop} (h0 : LX RL code 7 room_1 X) (hK : KL g g' cJ qo b Ln xs X) (hi : idxOK i Ln) (hcn : cn + 5 ≤ room_1.cells) (hsn : sn + 30 ≤ room_1.slots) (hS : Sim_clock fu R) (hR : R S SR) (k9 : ∀ (S' SR' : Mem) (o' : Nat → Int64), R S' SR' → LV X (AL X) 7 (cn + 5) (sn + 30) (hL g g' cJ qo S' SR' o') (LB g g' qo b i) 1506 []) : LV X (AL X) 7 cn sn (hL g g' cJ qo S SR o) (LB g g' qo b i) 1299 [] := by
  obtain ⟨hi0, hi1, hi2, hi3, hi4, hi5⟩ := hi
  obtain ⟨v, SR2, e1, e2, e6⟩ := hS S SR hR
  refine l_aload_n (pc' := 1300) h0 1 dw_1299 rfl rfl rfl ?_
  refine l_callG (pc' := 1303) (n := 0) h0 hK vm_436 vm_437 vm_438 vm_439 vm_60 ⟨by decide +kernel, by decide +kernel, by decide +kernel⟩ [] [] (c_X7_clock g fu S e1) rfl rfl dw_1300 rfl (Nat.le_of_ble_eq_true rfl) ⟨rfl, rfl, Nat.le_of_ble_eq_true rfl, Nat.le_of_ble_eq_true rfl⟩ ⟨lcb hcn 0 (by decide), lcb hsn 0 (by decide)⟩ ?_
  refine l_aload_n (pc' := 1304) h0 2 dw_1303 rfl rfl rfl ?_
  refine l_callM (pc' := 1307) (n := 0) h0 hK vm_1214 vm_1215 vm_1216 vm_1217 vm_74 ⟨by decide +kernel, by decide +kernel, by decide +kernel⟩ [] [.int v] (c_X8_clock g' fu  SR e2) rfl rfl dw_1304 rfl (Nat.le_of_ble_eq_true rfl) ⟨rfl, rfl, Nat.le_of_ble_eq_true rfl, Nat.le_of_ble_eq_true rfl⟩ ⟨lcb hcn 0 (by decide), lcb hsn 0 (by decide)⟩ ?_
  refine l_ic_eq (pt := 1506) h0 dw_1307 rfl rfl ?_
  exact l_widen (lcw cn 0 5 (by decide)) (lcw sn 0 30 (by decide)) (l_sub [0, 1, 2, 3, 4] rfl (k9 S SR2 _ e6))
theorem lc_phaseNow {X : MX} {g : GC} {g' : GR} {cJ : ClassId} {qo b Ln : Nat} {xs : Nat → Int32} {cn sn : Nat} {i : Int32} {S SR : Mem} {o : Nat → Int64} {fu : Nat} {R : Mem → Mem → Prop} (h0 : LX RL code 7 room_1 X) (hK : KL g g' cJ qo b Ln xs X) (hi : idxOK i Ln) (hcn : cn + 5 ≤ room_1.cells) (hsn : sn + 30 ≤ room_1.slots) (hS : Sim_phaseNow fu R) (hR : R S SR) (k9 : ∀ (S' SR' : Mem) (o' : Nat → Int64), R S' SR' → LV X (AL X) 7 (cn + 5) (sn + 30) (hL g g' cJ qo S' SR' o') (LB g g' qo b i) 1506 []) : LV X (AL X) 7 cn sn (hL g g' cJ qo S SR o) (LB g g' qo b i) 1312 [] := by
  obtain ⟨hi0, hi1, hi2, hi3, hi4, hi5⟩ := hi
  obtain ⟨z, y, SR2, k, e1, e2, e3, e4, e5, e6⟩ := hS S SR (xs (i + 1).toNatClampNeg) hR
  refine l_aload_n (pc' := 1313) h0 1 dw_1312 rfl rfl rfl ?_
  refine l_aload_n (pc' := 1314) h0 0 dw_1313 rfl rfl rfl ?_
  refine l_iload (pc' := 1316) h0 4 dw_1314 rfl rfl ?_
  refine l_iconst (pc' := 1317) h0 dw_1316 ki_1 rfl ?_
  refine l_iadd (pc' := 1318) h0 dw_1317 rfl ?_
  refine s_ld (pc' := 1319) h0 hK hi1 dw_1318 rfl ?_
  refine l_aload_n (pc' := 1320) h0 3 dw_1319 rfl rfl rfl ?_
  refine l_callW (pc' := 1323) (n := 3) h0 hK vm_886 vm_887 vm_59 vm_888 ⟨by decide +kernel, by decide +kernel, by decide +kernel⟩ [.ref (wA (wC g) 7 0), .int (xs (i + 1).toNatClampNeg), .ref qo] [] (cw_phaseNow g cJ qo fu (xs (i + 1).toNatClampNeg) S o e1 e2) rfl rfl dw_1320 rfl (Nat.le_of_ble_eq_true rfl) ⟨rfl, rfl, Nat.le_of_ble_eq_true rfl, Nat.le_of_ble_eq_true rfl⟩ ⟨lcb hcn 2 (by decide), lcb hsn 12 (by decide)⟩ ?_
  refine l_istore (pc' := 1325) (L' := [(5, .int k), (0, .ref b), (1, .ref (wA (wC g) 7 0)), (2, .ref (wA (wR g') 8 0)), (3, .ref qo), (4, .int i)]) h0 dw_1323 (Nat.le_of_ble_eq_true rfl) rfl rfl ?_
  refine l_aload_n (pc' := 1326) h0 3 dw_1325 rfl rfl rfl ?_
  refine l_aload_n (pc' := 1327) h0 1 dw_1326 rfl rfl rfl ?_
  refine l_iload (pc' := 1329) h0 5 dw_1327 rfl rfl ?_
  refine l_iconst (pc' := 1330) h0 dw_1329 ki_1 rfl ?_
  refine l_iadd (pc' := 1331) h0 dw_1330 rfl ?_
  refine s_ld (pc' := 1332) h0 hK hi1 dw_1331 rfl ?_
  refine l_callM (pc' := 1335) (n := 1) h0 hK vm_1218 vm_1219 vm_1220 vm_1221 vm_74 ⟨by decide +kernel, by decide +kernel, by decide +kernel⟩ [.int (xs (i + 1).toNatClampNeg)] [] (c_X8_phaseNow g' fu (xs (i + 1).toNatClampNeg) SR e3) rfl rfl dw_1332 rfl (Nat.le_of_ble_eq_true rfl) ⟨rfl, rfl, Nat.le_of_ble_eq_true rfl, Nat.le_of_ble_eq_true rfl⟩ ⟨lcb hcn 2 (by decide), lcb hsn 12 (by decide)⟩ ?_
  refine l_istore (pc' := 1337) (L' := [(6, .int y), (5, .int k), (0, .ref b), (1, .ref (wA (wC g) 7 0)), (2, .ref (wA (wR g') 8 0)), (3, .ref qo), (4, .int i)]) h0 dw_1335 (Nat.le_of_ble_eq_true rfl) rfl rfl ?_
  refine l_aload_n (pc' := 1338) h0 4 dw_1337 rfl rfl rfl ?_
  refine l_callM (pc' := 1341) (n := 0) h0 hK vm_1002 vm_1003 vm_1004 vm_1005 vm_74 ⟨by decide +kernel, by decide +kernel, by decide +kernel⟩ [] [] (c_X8_thrown g' fu SR2 rfl) rfl rfl dw_1338 rfl (Nat.le_of_ble_eq_true rfl) ⟨rfl, rfl, Nat.le_of_ble_eq_true rfl, Nat.le_of_ble_eq_true rfl⟩ ⟨lcb hcn 2 (by decide), lcb hsn 12 (by decide)⟩ ?_
  refine l_iload (pc' := 1343) h0 1 dw_1341 rfl rfl ?_
  refine l_ic_eq (pt := 1348) h0 dw_1343 rfl e4 ?_
  refine l_iload (pc' := 1350) h0 1 dw_1348 rfl rfl ?_
  refine l_if_ne (pt := 1365) (pf := 1353) h0 dw_1350 rfl rfl (fun _ => ?_) (fun c => ?_)
  · exact l_goto (pc' := 1506) h0 dw_1365 rfl (l_widen (lcw cn 2 5 (by decide)) (lcw sn 12 30 (by decide)) (l_sub [2, 3, 4, 5, 6] rfl (k9 S SR2 _ e6)))
  · subst c
    obtain ⟨v, rfl⟩ := hc2_zero e2
    obtain rfl := e5 v rfl
    refine l_aload_n (pc' := 1354) h0 5 dw_1353 rfl rfl rfl ?_
    refine l_iconst (pc' := 1355) h0 dw_1354 ki_0 rfl ?_
    refine s_out (pc' := 1356) h0 hK dw_1355 rfl ?_
    refine l_iload (pc' := 1358) h0 0 dw_1356 rfl rfl ?_
    refine l_i2l (pc' := 1359) h0 dw_1358 rfl ?_
    refine l_lcmp (pc' := 1360) h0 dw_1359 rfl ?_
    refine t_eqT (pc' := 1365) h0 dw_1360 rfl (by exact lg_self _) ?_
    exact l_goto (pc' := 1506) h0 dw_1365 rfl (l_widen (lcw cn 2 5 (by decide)) (lcw sn 12 30 (by decide)) (l_sub [2, 3, 4, 5, 6] rfl (k9 S SR2 _ e6)))
theorem lc_queue {X : MX} {g : GC} {g' : GR} {cJ : ClassId} {qo b Ln : Nat} {xs : Nat → Int32} {cn sn : Nat} {i : Int32} {S SR : Mem} {o : Nat → Int64} {fu : Nat} {R : Mem → Mem → Prop} (h0 : LX RL code 7 room_1 X) (hK : KL g g' cJ qo b Ln xs X) (hi : idxOK i Ln) (hcn : cn + 5 ≤ room_1.cells) (hsn : sn + 30 ≤ room_1.slots) (hS : Sim_queue fu R) (hR : R S SR) (k9 : ∀ (S' SR' : Mem) (o' : Nat → Int64), R S' SR' → LV X (AL X) 7 (cn + 5) (sn + 30) (hL g g' cJ qo S' SR' o') (LB g g' qo b i) 1506 []) : LV X (AL X) 7 cn sn (hL g g' cJ qo S SR o) (LB g g' qo b i) 1368 [] := by
  obtain ⟨hi0, hi1, hi2, hi3, hi4, hi5⟩ := hi
  obtain ⟨z, y, SR2, k, e1, e2, e3, e4, e5, e6⟩ := hS S SR (xs (i + 1).toNatClampNeg) hR
  refine l_aload_n (pc' := 1369) h0 1 dw_1368 rfl rfl rfl ?_
  refine l_aload_n (pc' := 1370) h0 0 dw_1369 rfl rfl rfl ?_
  refine l_iload (pc' := 1372) h0 4 dw_1370 rfl rfl ?_
  refine l_iconst (pc' := 1373) h0 dw_1372 ki_1 rfl ?_
  refine l_iadd (pc' := 1374) h0 dw_1373 rfl ?_
  refine s_ld (pc' := 1375) h0 hK hi1 dw_1374 rfl ?_
  refine l_aload_n (pc' := 1376) h0 3 dw_1375 rfl rfl rfl ?_
  refine l_callW (pc' := 1379) (n := 3) h0 hK vm_894 vm_895 vm_59 vm_896 ⟨by decide +kernel, by decide +kernel, by decide +kernel⟩ [.ref (wA (wC g) 7 0), .int (xs (i + 1).toNatClampNeg), .ref qo] [] (cw_queue g cJ qo fu (xs (i + 1).toNatClampNeg) S o e1 e2) rfl rfl dw_1376 rfl (Nat.le_of_ble_eq_true rfl) ⟨rfl, rfl, Nat.le_of_ble_eq_true rfl, Nat.le_of_ble_eq_true rfl⟩ ⟨lcb hcn 1 (by decide), lcb hsn 6 (by decide)⟩ ?_
  refine l_istore (pc' := 1381) (L' := [(5, .int k), (0, .ref b), (1, .ref (wA (wC g) 7 0)), (2, .ref (wA (wR g') 8 0)), (3, .ref qo), (4, .int i)]) h0 dw_1379 (Nat.le_of_ble_eq_true rfl) rfl rfl ?_
  refine l_aload_n (pc' := 1382) h0 3 dw_1381 rfl rfl rfl ?_
  refine l_aload_n (pc' := 1383) h0 1 dw_1382 rfl rfl rfl ?_
  refine l_iload (pc' := 1385) h0 5 dw_1383 rfl rfl ?_
  refine l_iconst (pc' := 1386) h0 dw_1385 ki_1 rfl ?_
  refine l_iadd (pc' := 1387) h0 dw_1386 rfl ?_
  refine s_ld (pc' := 1388) h0 hK hi1 dw_1387 rfl ?_
  refine l_callM (pc' := 1391) (n := 1) h0 hK vm_1222 vm_1223 vm_1224 vm_1225 vm_74 ⟨by decide +kernel, by decide +kernel, by decide +kernel⟩ [.int (xs (i + 1).toNatClampNeg)] [] (c_X8_queue g' fu (xs (i + 1).toNatClampNeg) SR e3) rfl rfl dw_1388 rfl (Nat.le_of_ble_eq_true rfl) ⟨rfl, rfl, Nat.le_of_ble_eq_true rfl, Nat.le_of_ble_eq_true rfl⟩ ⟨lcb hcn 1 (by decide), lcb hsn 6 (by decide)⟩ ?_
  refine l_istore (pc' := 1393) (L' := [(6, .int y), (5, .int k), (0, .ref b), (1, .ref (wA (wC g) 7 0)), (2, .ref (wA (wR g') 8 0)), (3, .ref qo), (4, .int i)]) h0 dw_1391 (Nat.le_of_ble_eq_true rfl) rfl rfl ?_
  refine l_aload_n (pc' := 1394) h0 4 dw_1393 rfl rfl rfl ?_
  refine l_callM (pc' := 1397) (n := 0) h0 hK vm_1002 vm_1003 vm_1004 vm_1005 vm_74 ⟨by decide +kernel, by decide +kernel, by decide +kernel⟩ [] [] (c_X8_thrown g' fu SR2 rfl) rfl rfl dw_1394 rfl (Nat.le_of_ble_eq_true rfl) ⟨rfl, rfl, Nat.le_of_ble_eq_true rfl, Nat.le_of_ble_eq_true rfl⟩ ⟨lcb hcn 1 (by decide), lcb hsn 6 (by decide)⟩ ?_
  refine l_iload (pc' := 1399) h0 1 dw_1397 rfl rfl ?_
  refine l_ic_eq (pt := 1404) h0 dw_1399 rfl e4 ?_
  refine l_iload (pc' := 1406) h0 1 dw_1404 rfl rfl ?_
  refine l_if_ne (pt := 1421) (pf := 1409) h0 dw_1406 rfl rfl (fun _ => ?_) (fun c => ?_)
  · exact l_goto (pc' := 1506) h0 dw_1421 rfl (l_widen (lcw cn 1 5 (by decide)) (lcw sn 6 30 (by decide)) (l_sub [2, 3, 4, 5, 6] rfl (k9 S SR2 _ e6)))
  · subst c
    obtain ⟨v, rfl⟩ := hc1_zero e2
    obtain rfl := e5 v rfl
    refine l_aload_n (pc' := 1410) h0 5 dw_1409 rfl rfl rfl ?_
    refine l_iconst (pc' := 1411) h0 dw_1410 ki_0 rfl ?_
    refine s_out (pc' := 1412) h0 hK dw_1411 rfl ?_
    refine l_iload (pc' := 1414) h0 0 dw_1412 rfl rfl ?_
    refine l_i2l (pc' := 1415) h0 dw_1414 rfl ?_
    refine l_lcmp (pc' := 1416) h0 dw_1415 rfl ?_
    refine t_eqT (pc' := 1421) h0 dw_1416 rfl (by exact lg_self _) ?_
    exact l_goto (pc' := 1506) h0 dw_1421 rfl (l_widen (lcw cn 1 5 (by decide)) (lcw sn 6 30 (by decide)) (l_sub [2, 3, 4, 5, 6] rfl (k9 S SR2 _ e6)))
theorem lc_held {X : MX} {g : GC} {g' : GR} {cJ : ClassId} {qo b Ln : Nat} {xs : Nat → Int32} {cn sn : Nat} {i : Int32} {S SR : Mem} {o : Nat → Int64} {fu : Nat} {R : Mem → Mem → Prop} (h0 : LX RL code 7 room_1 X) (hK : KL g g' cJ qo b Ln xs X) (hi : idxOK i Ln) (hcn : cn + 5 ≤ room_1.cells) (hsn : sn + 30 ≤ room_1.slots) (hS : Sim_held fu R) (hR : R S SR) (k9 : ∀ (S' SR' : Mem) (o' : Nat → Int64), R S' SR' → LV X (AL X) 7 (cn + 5) (sn + 30) (hL g g' cJ qo S' SR' o') (LB g g' qo b i) 1506 []) : LV X (AL X) 7 cn sn (hL g g' cJ qo S SR o) (LB g g' qo b i) 1424 [] := by
  obtain ⟨hi0, hi1, hi2, hi3, hi4, hi5⟩ := hi
  obtain ⟨z, y, SR2, k, e1, e2, e3, e4, e5, e6⟩ := hS S SR (xs (i + 1).toNatClampNeg) hR
  refine l_aload_n (pc' := 1425) h0 1 dw_1424 rfl rfl rfl ?_
  refine l_aload_n (pc' := 1426) h0 0 dw_1425 rfl rfl rfl ?_
  refine l_iload (pc' := 1428) h0 4 dw_1426 rfl rfl ?_
  refine l_iconst (pc' := 1429) h0 dw_1428 ki_1 rfl ?_
  refine l_iadd (pc' := 1430) h0 dw_1429 rfl ?_
  refine s_ld (pc' := 1431) h0 hK hi1 dw_1430 rfl ?_
  refine l_aload_n (pc' := 1432) h0 3 dw_1431 rfl rfl rfl ?_
  refine l_callW (pc' := 1435) (n := 3) h0 hK vm_901 vm_902 vm_59 vm_903 ⟨by decide +kernel, by decide +kernel, by decide +kernel⟩ [.ref (wA (wC g) 7 0), .int (xs (i + 1).toNatClampNeg), .ref qo] [] (cw_held g cJ qo fu (xs (i + 1).toNatClampNeg) S o e1 e2) rfl rfl dw_1432 rfl (Nat.le_of_ble_eq_true rfl) ⟨rfl, rfl, Nat.le_of_ble_eq_true rfl, Nat.le_of_ble_eq_true rfl⟩ ⟨lcb hcn 3 (by decide), lcb hsn 18 (by decide)⟩ ?_
  refine l_istore (pc' := 1437) (L' := [(5, .int k), (0, .ref b), (1, .ref (wA (wC g) 7 0)), (2, .ref (wA (wR g') 8 0)), (3, .ref qo), (4, .int i)]) h0 dw_1435 (Nat.le_of_ble_eq_true rfl) rfl rfl ?_
  refine l_aload_n (pc' := 1438) h0 3 dw_1437 rfl rfl rfl ?_
  refine l_aload_n (pc' := 1439) h0 1 dw_1438 rfl rfl rfl ?_
  refine l_iload (pc' := 1441) h0 5 dw_1439 rfl rfl ?_
  refine l_iconst (pc' := 1442) h0 dw_1441 ki_1 rfl ?_
  refine l_iadd (pc' := 1443) h0 dw_1442 rfl ?_
  refine s_ld (pc' := 1444) h0 hK hi1 dw_1443 rfl ?_
  refine l_callM (pc' := 1447) (n := 1) h0 hK vm_1226 vm_1227 vm_1228 vm_1229 vm_74 ⟨by decide +kernel, by decide +kernel, by decide +kernel⟩ [.int (xs (i + 1).toNatClampNeg)] [] (c_X8_held g' fu (xs (i + 1).toNatClampNeg) SR e3) rfl rfl dw_1444 rfl (Nat.le_of_ble_eq_true rfl) ⟨rfl, rfl, Nat.le_of_ble_eq_true rfl, Nat.le_of_ble_eq_true rfl⟩ ⟨lcb hcn 3 (by decide), lcb hsn 18 (by decide)⟩ ?_
  refine l_istore (pc' := 1449) (L' := [(6, .int y), (5, .int k), (0, .ref b), (1, .ref (wA (wC g) 7 0)), (2, .ref (wA (wR g') 8 0)), (3, .ref qo), (4, .int i)]) h0 dw_1447 (Nat.le_of_ble_eq_true rfl) rfl rfl ?_
  refine l_aload_n (pc' := 1450) h0 4 dw_1449 rfl rfl rfl ?_
  refine l_callM (pc' := 1453) (n := 0) h0 hK vm_1002 vm_1003 vm_1004 vm_1005 vm_74 ⟨by decide +kernel, by decide +kernel, by decide +kernel⟩ [] [] (c_X8_thrown g' fu SR2 rfl) rfl rfl dw_1450 rfl (Nat.le_of_ble_eq_true rfl) ⟨rfl, rfl, Nat.le_of_ble_eq_true rfl, Nat.le_of_ble_eq_true rfl⟩ ⟨lcb hcn 3 (by decide), lcb hsn 18 (by decide)⟩ ?_
  refine l_iload (pc' := 1455) h0 1 dw_1453 rfl rfl ?_
  refine l_ic_eq (pt := 1460) h0 dw_1455 rfl e4 ?_
  refine l_iload (pc' := 1462) h0 1 dw_1460 rfl rfl ?_
  refine l_if_ne (pt := 1477) (pf := 1465) h0 dw_1462 rfl rfl (fun _ => ?_) (fun c => ?_)
  · exact l_goto (pc' := 1506) h0 dw_1477 rfl (l_widen (lcw cn 3 5 (by decide)) (lcw sn 18 30 (by decide)) (l_sub [2, 3, 4, 5, 6] rfl (k9 S SR2 _ e6)))
  · subst c
    obtain ⟨v, rfl⟩ := hc1_zero e2
    obtain rfl := e5 v rfl
    refine l_aload_n (pc' := 1466) h0 5 dw_1465 rfl rfl rfl ?_
    refine l_iconst (pc' := 1467) h0 dw_1466 ki_0 rfl ?_
    refine s_out (pc' := 1468) h0 hK dw_1467 rfl ?_
    refine l_iload (pc' := 1470) h0 0 dw_1468 rfl rfl ?_
    refine l_i2l (pc' := 1471) h0 dw_1470 rfl ?_
    refine l_lcmp (pc' := 1472) h0 dw_1471 rfl ?_
    refine t_eqT (pc' := 1477) h0 dw_1472 rfl (by exact lg_self _) ?_
    exact l_goto (pc' := 1506) h0 dw_1477 rfl (l_widen (lcw cn 3 5 (by decide)) (lcw sn 18 30 (by decide)) (l_sub [2, 3, 4, 5, 6] rfl (k9 S SR2 _ e6)))
theorem lc_come {X : MX} {g : GC} {g' : GR} {cJ : ClassId} {qo b Ln : Nat} {xs : Nat → Int32} {cn sn : Nat} {i : Int32} {S SR : Mem} {o : Nat → Int64} {fu : Nat} {R : Mem → Mem → Prop} (h0 : LX RL code 7 room_1 X) (hK : KL g g' cJ qo b Ln xs X) (hi : idxOK i Ln) (hcn : cn + 5 ≤ room_1.cells) (hsn : sn + 30 ≤ room_1.slots) (hS : Sim_come fu R) (hR : R S SR) (k9 : ∀ (S' SR' : Mem) (o' : Nat → Int64), R S' SR' → LV X (AL X) 7 (cn + 5) (sn + 30) (hL g g' cJ qo S' SR' o') (LB g g' qo b i) 1506 []) : LV X (AL X) 7 cn sn (hL g g' cJ qo S SR o) (LB g g' qo b i) 1480 [] := by
  obtain ⟨hi0, hi1, hi2, hi3, hi4, hi5⟩ := hi
  obtain ⟨v, SR2, e1, e2, e6⟩ := hS S SR hR
  refine l_aload_n (pc' := 1481) h0 1 dw_1480 rfl rfl rfl ?_
  refine l_callG (pc' := 1484) (n := 0) h0 hK vm_440 vm_441 vm_442 vm_443 vm_60 ⟨by decide +kernel, by decide +kernel, by decide +kernel⟩ [] [] (c_X7_come g fu S e1) rfl rfl dw_1481 rfl (Nat.le_of_ble_eq_true rfl) ⟨rfl, rfl, Nat.le_of_ble_eq_true rfl, Nat.le_of_ble_eq_true rfl⟩ ⟨lcb hcn 0 (by decide), lcb hsn 0 (by decide)⟩ ?_
  refine l_aload_n (pc' := 1485) h0 2 dw_1484 rfl rfl rfl ?_
  refine l_callM (pc' := 1488) (n := 0) h0 hK vm_1230 vm_1231 vm_1232 vm_1233 vm_74 ⟨by decide +kernel, by decide +kernel, by decide +kernel⟩ [] [.int v] (c_X8_come g' fu  SR e2) rfl rfl dw_1485 rfl (Nat.le_of_ble_eq_true rfl) ⟨rfl, rfl, Nat.le_of_ble_eq_true rfl, Nat.le_of_ble_eq_true rfl⟩ ⟨lcb hcn 0 (by decide), lcb hsn 0 (by decide)⟩ ?_
  refine l_ic_eq (pt := 1506) h0 dw_1488 rfl rfl ?_
  exact l_widen (lcw cn 0 5 (by decide)) (lcw sn 0 30 (by decide)) (l_sub [0, 1, 2, 3, 4] rfl (k9 S SR2 _ e6))
theorem lc_through {X : MX} {g : GC} {g' : GR} {cJ : ClassId} {qo b Ln : Nat} {xs : Nat → Int32} {cn sn : Nat} {i : Int32} {S SR : Mem} {o : Nat → Int64} {fu : Nat} {R : Mem → Mem → Prop} (h0 : LX RL code 7 room_1 X) (hK : KL g g' cJ qo b Ln xs X) (hi : idxOK i Ln) (hcn : cn + 5 ≤ room_1.cells) (hsn : sn + 30 ≤ room_1.slots) (hS : Sim_through fu R) (hR : R S SR) (k9 : ∀ (S' SR' : Mem) (o' : Nat → Int64), R S' SR' → LV X (AL X) 7 (cn + 5) (sn + 30) (hL g g' cJ qo S' SR' o') (LB g g' qo b i) 1506 []) : LV X (AL X) 7 cn sn (hL g g' cJ qo S SR o) (LB g g' qo b i) 1493 [] := by
  obtain ⟨hi0, hi1, hi2, hi3, hi4, hi5⟩ := hi
  obtain ⟨v, SR2, e1, e2, e6⟩ := hS S SR hR
  refine l_aload_n (pc' := 1494) h0 1 dw_1493 rfl rfl rfl ?_
  refine l_callG (pc' := 1497) (n := 0) h0 hK vm_444 vm_445 vm_446 vm_447 vm_60 ⟨by decide +kernel, by decide +kernel, by decide +kernel⟩ [] [] (c_X7_through g fu S e1) rfl rfl dw_1494 rfl (Nat.le_of_ble_eq_true rfl) ⟨rfl, rfl, Nat.le_of_ble_eq_true rfl, Nat.le_of_ble_eq_true rfl⟩ ⟨lcb hcn 0 (by decide), lcb hsn 0 (by decide)⟩ ?_
  refine l_aload_n (pc' := 1498) h0 2 dw_1497 rfl rfl rfl ?_
  refine l_callM (pc' := 1501) (n := 0) h0 hK vm_1234 vm_1235 vm_1236 vm_1237 vm_74 ⟨by decide +kernel, by decide +kernel, by decide +kernel⟩ [] [.int v] (c_X8_through g' fu  SR e2) rfl rfl dw_1498 rfl (Nat.le_of_ble_eq_true rfl) ⟨rfl, rfl, Nat.le_of_ble_eq_true rfl, Nat.le_of_ble_eq_true rfl⟩ ⟨lcb hcn 0 (by decide), lcb hsn 0 (by decide)⟩ ?_
  refine l_ic_eq (pt := 1506) h0 dw_1501 rfl rfl ?_
  exact l_widen (lcw cn 0 5 (by decide)) (lcw sn 0 30 (by decide)) (l_sub [0, 1, 2, 3, 4] rfl (k9 S SR2 _ e6))
