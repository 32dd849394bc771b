/-! The law's loop, over a relation of the two memories. -/
theorem i_nat {m : Nat} (h : m < 2 ^ 31) : (Int32.ofNat m).toInt = m := Int32.toInt_ofNat_of_lt h
theorem inb_nat {m n : Nat} (h : m < n) (hn : n ≤ 3072) : inb (Int32.ofNat m) n = true := by
  unfold inb
  rw [i_nat (by omega)]
  exact decide_eq_true ⟨by omega, by omega⟩
theorem idx_nat {m n : Nat} (h : m + 6 ≤ n) (hn : n ≤ 3072) : idxOK (Int32.ofNat m) n := by
  have e : ∀ j : Nat, Int32.ofNat m + Int32.ofNat j = Int32.ofNat (m + j) := fun j => (Int32.ofNat_add m j).symm
  refine ⟨inb_nat (by omega) hn, ?_, ?_, ?_, ?_, ?_⟩
  · rw [show (1 : Int32) = Int32.ofNat 1 from rfl, e]; exact inb_nat (by omega) hn
  · rw [show (2 : Int32) = Int32.ofNat 2 from rfl, e]; exact inb_nat (by omega) hn
  · rw [show (3 : Int32) = Int32.ofNat 3 from rfl, e]; exact inb_nat (by omega) hn
  · rw [show (4 : Int32) = Int32.ofNat 4 from rfl, e]; exact inb_nat (by omega) hn
  · rw [show (5 : Int32) = Int32.ofNat 5 from rfl, e]; exact inb_nat (by omega) hn
theorem len6 {n : Nat} (hn : n ≤ 3072) : (Int32.ofNat n - 6).toInt = (n : Int) - 6 := by
  rw [Int32.toInt_sub, i_nat (by omega), show (6 : Int32).toInt = 6 from rfl]
  exact Int.bmod_eq_of_le (by omega) (by omega)
def lw_tg : List Nat := [152, 200, 292, 396, 476, 536, 604, 648, 661, 724, 792, 860, 916, 1003, 1059, 1131, 1175, 1231, 1299, 1312, 1368, 1424, 1480, 1493]
theorem lw_tab : ∀ n : Nat, n < 24 → ∃ off : Int, (#[112, 160, 252, 356, 436, 496, 564, 608, 621, 684, 752, 820, 876, 963, 1019, 1091, 1135, 1191, 1259, 1272, 1328, 1384, 1440, 1453] : Array Int)[n]? = some off ∧ (40 : Int) + off = ((lw_tg.getD n 1506 : Nat) : Int) := by
  intro n hn
  match n, hn with
  | 0, _ => exact ⟨_, rfl, rfl⟩
  | 1, _ => exact ⟨_, rfl, rfl⟩
  | 2, _ => exact ⟨_, rfl, rfl⟩
  | 3, _ => exact ⟨_, rfl, rfl⟩
  | 4, _ => exact ⟨_, rfl, rfl⟩
  | 5, _ => exact ⟨_, rfl, rfl⟩
  | 6, _ => exact ⟨_, rfl, rfl⟩
  | 7, _ => exact ⟨_, rfl, rfl⟩
  | 8, _ => exact ⟨_, rfl, rfl⟩
  | 9, _ => exact ⟨_, rfl, rfl⟩
  | 10, _ => exact ⟨_, rfl, rfl⟩
  | 11, _ => exact ⟨_, rfl, rfl⟩
  | 12, _ => exact ⟨_, rfl, rfl⟩
  | 13, _ => exact ⟨_, rfl, rfl⟩
  | 14, _ => exact ⟨_, rfl, rfl⟩
  | 15, _ => exact ⟨_, rfl, rfl⟩
  | 16, _ => exact ⟨_, rfl, rfl⟩
  | 17, _ => exact ⟨_, rfl, rfl⟩
  | 18, _ => exact ⟨_, rfl, rfl⟩
  | 19, _ => exact ⟨_, rfl, rfl⟩
  | 20, _ => exact ⟨_, rfl, rfl⟩
  | 21, _ => exact ⟨_, rfl, rfl⟩
  | 22, _ => exact ⟨_, rfl, rfl⟩
  | 23, _ => exact ⟨_, rfl, rfl⟩
  | n + 24, h => exact absurd h (by omega)
theorem law_loop {X : MX} {g : GC} {g' : GR} {cJ : ClassId} {qo b Ln C0 D0 : Nat} {xs : Nat → Int32} {fu : Nat} {R : Mem → Mem → Prop} (h0 : LX RL code 7 room_1 X) (hK : KL g g' cJ qo b Ln xs X) (hLn : Ln ≤ 3072) (hC : C0 + 5 * 520 ≤ room_1.cells) (hD : D0 + 30 * 520 ≤ room_1.slots) (hSim : Sim fu R)
    (hend : ∀ (cn sn : Nat) (P : Heap → Prop) (L : List (Nat × Value)), cn ≤ room_1.cells → sn ≤ room_1.slots → LV X (AL X) 7 cn sn P L 1513 [.int 1]) : ∀ (k n : Nat) (S SR : Mem) (o : Nat → Int64), 512 < n + k → 6 * n ≤ Ln → R S SR → LV X (AL X) 7 (C0 + 5 * n) (D0 + 30 * n) (hL g g' cJ qo S SR o) (LB g g' qo b (Int32.ofNat (6 * n))) 23 [] := by
  obtain ⟨-, S0, S1, S2, S3, S4, S5, S6, S7, S8, S9, S10, S11, S12, S13, S14, S15, S16, S17, S18, S19, S20, S21, S22, S23⟩ := hSim
  intro k
  induction k with
  | zero => intro n S SR o h1 h2 _; exact absurd h1 (by omega)
  | succ k ih =>
    intro n S SR o h1 h2 hR
    have hn : n ≤ 512 := by omega
    refine l_iload (pc' := 25) h0 4 dw_23 rfl rfl ?_
    refine l_aload_n (pc' := 26) h0 0 dw_25 rfl rfl rfl ?_
    refine s_len (pc' := 27) h0 hK dw_26 rfl ?_
    refine l_bipush (pc' := 29) (v := 6) h0 dw_27 (by decide +kernel) rfl ?_
    refine l_isub (pc' := 30) h0 dw_29 rfl ?_
    refine l_ic_gt (pt := 1512) (pf := 33) h0 dw_30 rfl rfl (fun _ => ?_) (fun hc => ?_)
    · refine l_iconst (pc' := 1513) h0 dw_1512 ki_1 rfl ?_
      exact hend _ _ _ _ (by omega) (by omega)
    · have h6 : 6 * n + 6 ≤ Ln := by
        rw [Int32.lt_iff_toInt_lt, len6 hLn, i_nat (by omega)] at hc
        omega
      have hi := idx_nat h6 hLn
      have hcn : C0 + 5 * n + 5 ≤ room_1.cells := by omega
      have hsn : D0 + 30 * n + 30 ≤ room_1.slots := by omega
      have k9 : ∀ (S' SR' : Mem) (o' : Nat → Int64), R S' SR' → LV X (AL X) 7 (C0 + 5 * n + 5) (D0 + 30 * n + 30) (hL g g' cJ qo S' SR' o') (LB g g' qo b (Int32.ofNat (6 * n))) 1506 [] := by
        intro S' SR' o' hR'
        refine l_iinc (pc' := 1509) (v := 6) (L' := [(4, .int (Int32.ofNat (6 * n) + 6)), (0, .ref b), (1, .ref (wA (wC g) 7 0)), (2, .ref (wA (wR g') 8 0)), (3, .ref qo)]) h0 4 dw_1506 rfl (by decide +kernel) (Nat.le_of_ble_eq_true rfl) rfl rfl ?_
        refine l_goto (pc' := 23) h0 dw_1509 rfl ?_
        have e : Int32.ofNat (6 * n) + 6 = Int32.ofNat (6 * (n + 1)) := (Int32.ofNat_add (6 * n) 6).symm
        rw [e]
        have := ih (n + 1) S' SR' o' (by omega) (by omega) hR'
        exact l_sub [1, 2, 3, 4, 0] rfl this
      refine l_aload_n (pc' := 34) h0 0 dw_33 rfl rfl rfl ?_
      refine l_iload (pc' := 36) h0 4 dw_34 rfl rfl ?_
      refine s_ld (pc' := 37) h0 hK hi.1 dw_36 rfl ?_
      refine l_bipush (pc' := 39) (v := 31) h0 dw_37 (by decide +kernel) rfl ?_
      refine l_iand (pc' := 40) h0 dw_39 rfl ?_
      refine l_tab (tgt := fun n => lw_tg.getD n 1506) (td := 1506) h0 dw_40 (fun n _ h => lw_tab n (by omega)) rfl (fun j hj _ => ?_) ?_
      · have hj : j < 24 := by omega
        match j, hj with
        | 0, _ => exact lc_begin h0 hK hi hcn hsn S0 hR k9
        | 1, _ => exact lc_setConflict h0 hK hi hcn hsn S1 hR k9
        | 2, _ => exact lc_setPhases h0 hK hi hcn hsn S2 hR k9
        | 3, _ => exact lc_setFlow h0 hK hi hcn hsn S3 hR k9
        | 4, _ => exact lc_setLink h0 hK hi hcn hsn S4 hR k9
        | 5, _ => exact lc_setOffset h0 hK hi hcn hsn S5 hR k9
        | 6, _ => exact lc_improve h0 hK hi hcn hsn S6 hR k9
        | 7, _ => exact lc_junctions h0 hK hi hcn hsn S7 hR k9
        | 8, _ => exact lc_hasPlan h0 hK hi hcn hsn S8 hR k9
        | 9, _ => exact lc_green h0 hK hi hcn hsn S9 hR k9
        | 10, _ => exact lc_clearing h0 hK hi hcn hsn S10 hR k9
        | 11, _ => exact lc_offset h0 hK hi hcn hsn S11 hR k9
        | 12, _ => exact lc_isGreen h0 hK hi hcn hsn S12 hR k9
        | 13, _ => exact lc_breaches h0 hK hi hcn hsn S13 hR k9
        | 14, _ => exact lc_band h0 hK hi hcn hsn S14 hR k9
        | 15, _ => exact lc_bestByAll h0 hK hi hcn hsn S15 hR k9
        | 16, _ => exact lc_run h0 hK hi hcn hsn S16 hR k9
        | 17, _ => exact lc_callBus h0 hK hi hcn hsn S17 hR k9
        | 18, _ => exact lc_clock h0 hK hi hcn hsn S18 hR k9
        | 19, _ => exact lc_phaseNow h0 hK hi hcn hsn S19 hR k9
        | 20, _ => exact lc_queue h0 hK hi hcn hsn S20 hR k9
        | 21, _ => exact lc_held h0 hK hi hcn hsn S21 hR k9
        | 22, _ => exact lc_come h0 hK hi hcn hsn S22 hR k9
        | 23, _ => exact lc_through h0 hK hi hcn hsn S23 hR k9
        | j + 24, h => exact absurd h (by omega)
      · exact l_widen (lcw _ 0 5 (by decide)) (lcw _ 0 30 (by decide)) (k9 S SR o hR)
