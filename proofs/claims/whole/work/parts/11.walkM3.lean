theorem w_X8_callBus_178 {g : GR} {X : MX} {r : Int32} {S' : Mem} (h0 : CX RX8 cX8_callBus 5 rm_X8_callBus X (wR g)) (fu : Nat) (x1 : Int32) (x2 : Int32) (hE : EN (some .int) (some (.int r)) S' X (wR g)) : ∀ (S : Mem), f_X8_callBus_178 fu x1 x2 S = some (r, S') → GV X (wR g) 5 0 0 S [(0, .ref (wA (wR g) 8 0)), (1, .int x1)] 178 [] := by
  intro S h
  rw [f_X8_callBus_178] at h
  refine r_aload_n (pc' := 179) h0 0 dX8_callBus_178 rfl rfl rfl ?_
  refine gf_X8_65 (pc' := 182) h0 (Nat.le_of_ble_eq_true rfl) dX8_callBus_179 rfl ?_
  refine r_iload_n (pc' := 183) h0 1 dX8_callBus_182 rfl rfl rfl ?_
  refine r_ialdA (pc' := 184) h0 (ia_38 g) (Nat.le_of_ble_eq_true rfl) dX8_callBus_183 rfl h (fun h => ?_)
  exact r_iret h0 hE dX8_callBus_184 h
theorem w_X8_callBus_135 {g : GR} {X : MX} {r : Int32} {S' : Mem} (h0 : CX RX8 cX8_callBus 5 rm_X8_callBus X (wR g)) (fu : Nat) (x1 : Int32) (x2 : Int32) (hE : EN (some .int) (some (.int r)) S' X (wR g)) : ∀ (x3 : Int32) (x4 : Int32) (S : Mem), f_X8_callBus_135 fu x1 x2 x3 x4 S = some (r, S') → GV X (wR g) 5 0 0 S [(0, .ref (wA (wR g) 8 0)), (1, .int x1), (3, .int x3), (4, .int x4)] 135 [] := by
  intro x3 x4 S h
  rw [f_X8_callBus_135] at h
  refine r_iload_n (pc' := 136) h0 2 dX8_callBus_135 rfl rfl rfl ?_
  refine r_iconst (pc' := 137) h0 dX8_callBus_136 ki_m1 rfl ?_
  refine r_ic_eq (pt := 178) (pf := 140) h0 dX8_callBus_137 rfl rfl h (fun c137 h => ?_) (fun c137 h => ?_)
  · refine r_sub (L' := [(0, .ref (wA (wR g) 8 0)), (1, .int x1)]) [0, 1] rfl ?_
    exact w_X8_callBus_178 h0 fu x1 x2 hE S h
  · refine r_iload (pc' := 142) h0 3 dX8_callBus_140 rfl rfl ?_
    refine r_iload_n (pc' := 143) h0 2 dX8_callBus_142 rfl rfl rfl ?_
    refine r_ic_le (pt := 178) (pf := 146) h0 dX8_callBus_143 rfl rfl h (fun c143 h => ?_) (fun c143 h => ?_)
    · refine r_sub (L' := [(0, .ref (wA (wR g) 8 0)), (1, .int x1)]) [0, 1] rfl ?_
      exact w_X8_callBus_178 h0 fu x1 x2 hE S h
    · refine r_aload_n (pc' := 147) h0 0 dX8_callBus_146 rfl rfl rfl ?_
      refine gf_X8_62 (pc' := 150) h0 (Nat.le_of_ble_eq_true rfl) dX8_callBus_147 rfl ?_
      refine r_iload_n (pc' := 151) h0 1 dX8_callBus_150 rfl rfl rfl ?_
      refine r_iload_n (pc' := 152) h0 2 dX8_callBus_151 rfl rfl rfl ?_
      refine r_iastA (pc' := 153) h0 (ia_37 g) (Nat.le_of_ble_eq_true rfl) dX8_callBus_152 rfl h (fun h => ?_)
      refine r_aload_n (pc' := 154) h0 0 dX8_callBus_153 rfl rfl rfl ?_
      refine gf_X8_65 (pc' := 157) h0 (Nat.le_of_ble_eq_true rfl) dX8_callBus_154 rfl ?_
      refine r_iload_n (pc' := 158) h0 1 dX8_callBus_157 rfl rfl rfl ?_
      refine r_iconst (pc' := 159) h0 dX8_callBus_158 ki_5 rfl ?_
      refine r_aload_n (pc' := 160) h0 0 dX8_callBus_159 rfl rfl rfl ?_
      refine r_iload_n (pc' := 161) h0 1 dX8_callBus_160 rfl rfl rfl ?_
      refine r_iload_n (pc' := 162) h0 2 dX8_callBus_161 rfl rfl rfl ?_
      obtain ⟨r162, h162, h⟩ := b1_some h
      refine go_V (k_X8_216 g) (st2 := [.int r162, .int 5, .int x1, .ref (wA (wR g) 38 0)]) (pc' := 165) [.int x1, .int x3] [.int 5, .int x1, .ref (wA (wR g) 38 0)] h0 (Nat.le_of_ble_eq_true rfl) (c_X8_behind g fu x1 x3 (wI S 37 0 (x1 : Int32).toNatClampNeg x3) h162) rfl rfl dX8_callBus_162 rfl (Nat.le_of_ble_eq_true rfl) ⟨rfl, rfl, Nat.le_of_ble_eq_true rfl, Nat.le_of_ble_eq_true rfl⟩ ⟨Nat.le_of_ble_eq_true rfl, Nat.le_of_ble_eq_true rfl⟩ rfl ?_
      obtain ⟨r165, h165, h⟩ := b1_some h
      refine go_S (k_X8_213 g) (st2 := [.int r165, .int x1, .ref (wA (wR g) 38 0)]) (pc' := 168) [.int 5, .int r162] [.int x1, .ref (wA (wR g) 38 0)] h0 (c_X8_least g fu 5 r162 (wI S 37 0 (x1 : Int32).toNatClampNeg x3) h165) rfl rfl dX8_callBus_165 rfl (Nat.le_of_ble_eq_true rfl) ⟨rfl, rfl, Nat.le_of_ble_eq_true rfl, Nat.le_of_ble_eq_true rfl⟩ ⟨Nat.le_of_ble_eq_true rfl, Nat.le_of_ble_eq_true rfl⟩ rfl ?_
      refine r_aload_n (pc' := 169) h0 0 dX8_callBus_168 rfl rfl rfl ?_
      refine r_iload_n (pc' := 170) h0 1 dX8_callBus_169 rfl rfl rfl ?_
      refine r_iload_n (pc' := 171) h0 2 dX8_callBus_170 rfl rfl rfl ?_
      obtain ⟨r171, h171, h⟩ := b1_some h
      refine go_V (k_X8_210 g) (st2 := [.int r171, .int r165, .int x1, .ref (wA (wR g) 38 0)]) (pc' := 174) [.int x1, .int x3] [.int r165, .int x1, .ref (wA (wR g) 38 0)] h0 (Nat.le_of_ble_eq_true rfl) (c_X8_above g fu x1 x3 (wI S 37 0 (x1 : Int32).toNatClampNeg x3) h171) rfl rfl dX8_callBus_171 rfl (Nat.le_of_ble_eq_true rfl) ⟨rfl, rfl, Nat.le_of_ble_eq_true rfl, Nat.le_of_ble_eq_true rfl⟩ ⟨Nat.le_of_ble_eq_true rfl, Nat.le_of_ble_eq_true rfl⟩ rfl ?_
      obtain ⟨r174, h174, h⟩ := b1_some h
      refine go_S (k_X8_213 g) (st2 := [.int r174, .int x1, .ref (wA (wR g) 38 0)]) (pc' := 177) [.int r165, .int r171] [.int x1, .ref (wA (wR g) 38 0)] h0 (c_X8_least g fu r165 r171 (wI S 37 0 (x1 : Int32).toNatClampNeg x3) h174) rfl rfl dX8_callBus_174 rfl (Nat.le_of_ble_eq_true rfl) ⟨rfl, rfl, Nat.le_of_ble_eq_true rfl, Nat.le_of_ble_eq_true rfl⟩ ⟨Nat.le_of_ble_eq_true rfl, Nat.le_of_ble_eq_true rfl⟩ rfl ?_
      refine r_iastA (pc' := 178) h0 (ia_38 g) (Nat.le_of_ble_eq_true rfl) dX8_callBus_177 rfl h (fun h => ?_)
      refine r_sub (L' := [(0, .ref (wA (wR g) 8 0)), (1, .int x1)]) [0, 1] rfl ?_
      exact w_X8_callBus_178 h0 fu x1 x2 hE (wI (wI S 37 0 (x1 : Int32).toNatClampNeg x3) 38 0 (x1 : Int32).toNatClampNeg r174) h
/-- the machine does what f_X8_callBus says -/
theorem c_X8_callBus (g : GR) (fu : Nat) (x1 : Int32) (x2 : Int32) (S : Mem) {r : Int32} {S' : Mem} (h : f_X8_callBus fu x1 x2 S = some (r, S')) : ctN yX8_callBus cX8_callBus 5 (some .int) rm_X8_callBus (wR g) [.ref (wA (wR g) 8 0), .int x1, .int x2] S (some (.int r)) S' := by
  refine ct_of (own := RX8) (L := [(0, .ref (wA (wR g) 8 0)), (1, .int x1), (2, .int x2)]) (by decide +kernel) rfl (Nat.le_of_ble_eq_true rfl) rfl (fun X h0 hE => ?_)
  rw [f_X8_callBus] at h
  refine r_aload_n (pc' := 1) h0 0 dX8_callBus_0 rfl rfl rfl ?_
  refine r_aload_n (pc' := 2) h0 0 dX8_callBus_1 rfl rfl rfl ?_
  refine r_iload_n (pc' := 3) h0 1 dX8_callBus_2 rfl rfl rfl ?_
  refine r_iload_n (pc' := 4) h0 2 dX8_callBus_3 rfl rfl rfl ?_
  obtain ⟨r4, S4, h4, h⟩ := b2_some h
  refine go_V (k_X8_207 g) (st2 := [.int r4, .ref (wA (wR g) 8 0)]) (pc' := 7) [.int x1, .int x2] [.ref (wA (wR g) 8 0)] h0 (Nat.le_of_ble_eq_true rfl) (c_X8_errorOfCall g fu x1 x2 S h4) rfl rfl dX8_callBus_4 rfl (Nat.le_of_ble_eq_true rfl) ⟨rfl, rfl, Nat.le_of_ble_eq_true rfl, Nat.le_of_ble_eq_true rfl⟩ ⟨Nat.le_of_ble_eq_true rfl, Nat.le_of_ble_eq_true rfl⟩ rfl ?_
  obtain ⟨r7, S7, h7, h⟩ := b2_some h
  refine go_V (k_X8_102 g) (st2 := [.int r7]) (pc' := 10) [.int r4] [] h0 (Nat.le_of_ble_eq_true rfl) (c_X8_holds g fu r4 S4 h7) rfl rfl dX8_callBus_7 rfl (Nat.le_of_ble_eq_true rfl) ⟨rfl, rfl, Nat.le_of_ble_eq_true rfl, Nat.le_of_ble_eq_true rfl⟩ ⟨Nat.le_of_ble_eq_true rfl, Nat.le_of_ble_eq_true rfl⟩ rfl ?_
  refine r_if_ne (pt := 15) (pf := 13) h0 dX8_callBus_10 rfl rfl h (fun c10 h => ?_) (fun c10 h => ?_)
  · refine r_aload_n (pc' := 16) h0 0 dX8_callBus_15 rfl rfl rfl ?_
    refine r_iload_n (pc' := 17) h0 1 dX8_callBus_16 rfl rfl rfl ?_
    refine r_aload_n (pc' := 18) h0 0 dX8_callBus_17 rfl rfl rfl ?_
    refine gf_X8_90 (pc' := 21) h0 (Nat.le_of_ble_eq_true rfl) dX8_callBus_18 rfl ?_
    refine r_iconst (pc' := 22) h0 dX8_callBus_21 ki_0 rfl ?_
    obtain ⟨r22, h22, h⟩ := b1_some h
    refine go_V (k_X8_154 g) (st2 := [.int r22]) (pc' := 25) [.int x1, .int (S7.1 8 0 14), .int 0] [] h0 (Nat.le_of_ble_eq_true rfl) (c_X8_phaseAt g fu x1 (S7.1 8 0 14) 0 S7 h22) rfl rfl dX8_callBus_22 rfl (Nat.le_of_ble_eq_true rfl) ⟨rfl, rfl, Nat.le_of_ble_eq_true rfl, Nat.le_of_ble_eq_true rfl⟩ ⟨Nat.le_of_ble_eq_true rfl, Nat.le_of_ble_eq_true rfl⟩ rfl ?_
    refine r_istore_n (pc' := 26) (L' := [(3, .int r22), (0, .ref (wA (wR g) 8 0)), (1, .int x1), (2, .int x2)]) h0 dX8_callBus_25 rfl (Nat.le_of_ble_eq_true rfl) rfl rfl ?_
    refine r_aload_n (pc' := 27) h0 1 dX8_callBus_26 rfl rfl rfl ?_
    refine r_iload_n (pc' := 28) h0 2 dX8_callBus_27 rfl rfl rfl ?_
    refine r_iload_n (pc' := 29) h0 3 dX8_callBus_28 rfl rfl rfl ?_
    obtain ⟨r29, h29, h⟩ := b1_some h
    refine go_V (k_X8_204 g) (st2 := [.int r29]) (pc' := 32) [.int x1, .int x2] [] h0 (Nat.le_of_ble_eq_true rfl) (c_X8_phaseOf g fu x1 x2 S7 h29) rfl rfl dX8_callBus_29 rfl (Nat.le_of_ble_eq_true rfl) ⟨rfl, rfl, Nat.le_of_ble_eq_true rfl, Nat.le_of_ble_eq_true rfl⟩ ⟨Nat.le_of_ble_eq_true rfl, Nat.le_of_ble_eq_true rfl⟩ rfl ?_
    refine r_istore (pc' := 34) (L' := [(4, .int r29), (3, .int r22), (0, .ref (wA (wR g) 8 0)), (1, .int x1), (2, .int x2)]) h0 dX8_callBus_32 (Nat.le_of_ble_eq_true rfl) rfl rfl ?_
    refine r_aload_n (pc' := 35) h0 2 dX8_callBus_34 rfl rfl rfl ?_
    refine r_iconst (pc' := 36) h0 dX8_callBus_35 ki_1 rfl ?_
    refine pf_X8_86 (pc' := 39) h0 (Nat.le_of_ble_eq_true rfl) dX8_callBus_36 rfl rfl ?_
    refine r_aload_n (pc' := 40) h0 2 dX8_callBus_39 rfl rfl rfl ?_
    refine gf_X8_53 (pc' := 43) h0 (Nat.le_of_ble_eq_true rfl) dX8_callBus_40 rfl ?_
    refine r_iload_n (pc' := 44) h0 3 dX8_callBus_43 rfl rfl rfl ?_
    refine r_iconst (pc' := 45) h0 dX8_callBus_44 ki_1 rfl ?_
    refine r_zastA (pc' := 46) h0 (iz_34 g) (Nat.le_of_ble_eq_true rfl) dX8_callBus_45 rfl h (fun h => ?_)
    refine r_aload_n (pc' := 47) h0 2 dX8_callBus_46 rfl rfl rfl ?_
    refine gf_X8_56 (pc' := 50) h0 (Nat.le_of_ble_eq_true rfl) dX8_callBus_47 rfl ?_
    refine r_iload_n (pc' := 51) h0 3 dX8_callBus_50 rfl rfl rfl ?_
    refine r_aload_n (pc' := 52) h0 2 dX8_callBus_51 rfl rfl rfl ?_
    refine r_iload_n (pc' := 53) h0 3 dX8_callBus_52 rfl rfl rfl ?_
    refine r_aload_n (pc' := 54) h0 2 dX8_callBus_53 rfl rfl rfl ?_
    refine gf_X8_90 (pc' := 57) h0 (Nat.le_of_ble_eq_true rfl) dX8_callBus_54 rfl ?_
    obtain ⟨r57, h57, h⟩ := b1_some h
    refine go_V (k_X8_151 g) (st2 := [.int r57, .int x1, .ref (wA (wR g) 35 0)]) (pc' := 60) [.int x1, .int ((wI (wI S7 8 0 3 1) 34 0 (x1 : Int32).toNatClampNeg (nb 1)).1 8 0 14)] [.int x1, .ref (wA (wR g) 35 0)] h0 (Nat.le_of_ble_eq_true rfl) (c_X8_cycleOf g fu x1 ((wI (wI S7 8 0 3 1) 34 0 (x1 : Int32).toNatClampNeg (nb 1)).1 8 0 14) (wI (wI S7 8 0 3 1) 34 0 (x1 : Int32).toNatClampNeg (nb 1)) h57) rfl rfl dX8_callBus_57 rfl (Nat.le_of_ble_eq_true rfl) ⟨rfl, rfl, Nat.le_of_ble_eq_true rfl, Nat.le_of_ble_eq_true rfl⟩ ⟨Nat.le_of_ble_eq_true rfl, Nat.le_of_ble_eq_true rfl⟩ rfl ?_
    refine r_iastA (pc' := 61) h0 (ia_35 g) (Nat.le_of_ble_eq_true rfl) dX8_callBus_60 rfl h (fun h => ?_)
    refine r_aload_n (pc' := 62) h0 2 dX8_callBus_61 rfl rfl rfl ?_
    refine gf_X8_59 (pc' := 65) h0 (Nat.le_of_ble_eq_true rfl) dX8_callBus_62 rfl ?_
    refine r_iload_n (pc' := 66) h0 3 dX8_callBus_65 rfl rfl rfl ?_
    refine r_iload (pc' := 68) h0 0 dX8_callBus_66 rfl rfl ?_
    refine r_iastA (pc' := 69) h0 (ia_36 g) (Nat.le_of_ble_eq_true rfl) dX8_callBus_68 rfl h (fun h => ?_)
    refine r_aload_n (pc' := 70) h0 2 dX8_callBus_69 rfl rfl rfl ?_
    refine gf_X8_62 (pc' := 73) h0 (Nat.le_of_ble_eq_true rfl) dX8_callBus_70 rfl ?_
    refine r_iload_n (pc' := 74) h0 3 dX8_callBus_73 rfl rfl rfl ?_
    refine r_iload (pc' := 76) h0 0 dX8_callBus_74 rfl rfl ?_
    refine r_iastA (pc' := 77) h0 (ia_37 g) (Nat.le_of_ble_eq_true rfl) dX8_callBus_76 rfl h (fun h => ?_)
    refine r_aload_n (pc' := 78) h0 2 dX8_callBus_77 rfl rfl rfl ?_
    refine gf_X8_65 (pc' := 81) h0 (Nat.le_of_ble_eq_true rfl) dX8_callBus_78 rfl ?_
    refine r_iload_n (pc' := 82) h0 3 dX8_callBus_81 rfl rfl rfl ?_
    refine r_iconst (pc' := 83) h0 dX8_callBus_82 ki_0 rfl ?_
    refine r_iastA (pc' := 84) h0 (ia_38 g) (Nat.le_of_ble_eq_true rfl) dX8_callBus_83 rfl h (fun h => ?_)
    refine r_iload_n (pc' := 85) h0 1 dX8_callBus_84 rfl rfl rfl ?_
    refine r_iload (pc' := 87) h0 0 dX8_callBus_85 rfl rfl ?_
    refine r_ic_ne (pt := 135) (pf := 90) h0 dX8_callBus_87 rfl rfl h (fun c87 h => ?_) (fun c87 h => ?_)
    · refine r_sub (L' := [(0, .ref (wA (wR g) 8 0)), (1, .int x1), (3, .int r22), (4, .int r29)]) [2, 3, 1, 0] rfl ?_
      exact w_X8_callBus_135 h0 fu x1 x2 hE r22 r29 (wI (wI (wI (wI (wI (wI S7 8 0 3 1) 34 0 (x1 : Int32).toNatClampNeg (nb 1)) 35 0 (x1 : Int32).toNatClampNeg r57) 36 0 (x1 : Int32).toNatClampNeg r29) 37 0 (x1 : Int32).toNatClampNeg r29) 38 0 (x1 : Int32).toNatClampNeg 0) h
    · refine r_iload (pc' := 92) h0 0 dX8_callBus_90 rfl rfl ?_
      refine r_aload_n (pc' := 93) h0 2 dX8_callBus_92 rfl rfl rfl ?_
      refine gf_X8_16 (pc' := 96) h0 (Nat.le_of_ble_eq_true rfl) dX8_callBus_93 rfl ?_
      refine r_iload_n (pc' := 97) h0 3 dX8_callBus_96 rfl rfl rfl ?_
      refine r_ialdA (pc' := 98) h0 (ia_22 g) (Nat.le_of_ble_eq_true rfl) dX8_callBus_97 rfl h (fun h => ?_)
      refine r_iconst (pc' := 99) h0 dX8_callBus_98 ki_1 rfl ?_
      refine r_isub (pc' := 100) h0 dX8_callBus_99 rfl ?_
      refine r_ic_ge (pt := 135) (pf := 103) h0 dX8_callBus_100 rfl rfl h (fun c100 h => ?_) (fun c100 h => ?_)
      · refine r_sub (L' := [(0, .ref (wA (wR g) 8 0)), (1, .int x1), (3, .int r22), (4, .int r29)]) [2, 3, 1, 0] rfl ?_
        exact w_X8_callBus_135 h0 fu x1 x2 hE r22 r29 (wI (wI (wI (wI (wI (wI S7 8 0 3 1) 34 0 (x1 : Int32).toNatClampNeg (nb 1)) 35 0 (x1 : Int32).toNatClampNeg r57) 36 0 (x1 : Int32).toNatClampNeg r29) 37 0 (x1 : Int32).toNatClampNeg r29) 38 0 (x1 : Int32).toNatClampNeg 0) h
      · refine r_aload_n (pc' := 104) h0 2 dX8_callBus_103 rfl rfl rfl ?_
        refine gf_X8_62 (pc' := 107) h0 (Nat.le_of_ble_eq_true rfl) dX8_callBus_104 rfl ?_
        refine r_iload_n (pc' := 108) h0 3 dX8_callBus_107 rfl rfl rfl ?_
        refine r_iload (pc' := 110) h0 0 dX8_callBus_108 rfl rfl ?_
        refine r_iconst (pc' := 111) h0 dX8_callBus_110 ki_1 rfl ?_
        refine r_iadd (pc' := 112) h0 dX8_callBus_111 rfl ?_
        refine r_iastA (pc' := 113) h0 (ia_37 g) (Nat.le_of_ble_eq_true rfl) dX8_callBus_112 rfl h (fun h => ?_)
        refine r_aload_n (pc' := 114) h0 2 dX8_callBus_113 rfl rfl rfl ?_
        refine gf_X8_65 (pc' := 117) h0 (Nat.le_of_ble_eq_true rfl) dX8_callBus_114 rfl ?_
        refine r_iload_n (pc' := 118) h0 3 dX8_callBus_117 rfl rfl rfl ?_
        refine r_iconst (pc' := 119) h0 dX8_callBus_118 ki_5 rfl ?_
        refine r_aload_n (pc' := 120) h0 2 dX8_callBus_119 rfl rfl rfl ?_
        refine r_iload_n (pc' := 121) h0 3 dX8_callBus_120 rfl rfl rfl ?_
        refine r_iload (pc' := 123) h0 0 dX8_callBus_121 rfl rfl ?_
        refine r_iconst (pc' := 124) h0 dX8_callBus_123 ki_1 rfl ?_
        refine r_iadd (pc' := 125) h0 dX8_callBus_124 rfl ?_
        obtain ⟨r125, h125, h⟩ := b1_some h
        refine go_V (k_X8_210 g) (st2 := [.int r125, .int 5, .int x1, .ref (wA (wR g) 38 0)]) (pc' := 128) [.int x1, .int (r29 + 1)] [.int 5, .int x1, .ref (wA (wR g) 38 0)] h0 (Nat.le_of_ble_eq_true rfl) (c_X8_above g fu x1 (r29 + 1) (wI (wI (wI (wI (wI (wI (wI S7 8 0 3 1) 34 0 (x1 : Int32).toNatClampNeg (nb 1)) 35 0 (x1 : Int32).toNatClampNeg r57) 36 0 (x1 : Int32).toNatClampNeg r29) 37 0 (x1 : Int32).toNatClampNeg r29) 38 0 (x1 : Int32).toNatClampNeg 0) 37 0 (x1 : Int32).toNatClampNeg (r29 + 1)) h125) rfl rfl dX8_callBus_125 rfl (Nat.le_of_ble_eq_true rfl) ⟨rfl, rfl, Nat.le_of_ble_eq_true rfl, Nat.le_of_ble_eq_true rfl⟩ ⟨Nat.le_of_ble_eq_true rfl, Nat.le_of_ble_eq_true rfl⟩ rfl ?_
        obtain ⟨r128, h128, h⟩ := b1_some h
        refine go_S (k_X8_213 g) (st2 := [.int r128, .int x1, .ref (wA (wR g) 38 0)]) (pc' := 131) [.int 5, .int r125] [.int x1, .ref (wA (wR g) 38 0)] h0 (c_X8_least g fu 5 r125 (wI (wI (wI (wI (wI (wI (wI S7 8 0 3 1) 34 0 (x1 : Int32).toNatClampNeg (nb 1)) 35 0 (x1 : Int32).toNatClampNeg r57) 36 0 (x1 : Int32).toNatClampNeg r29) 37 0 (x1 : Int32).toNatClampNeg r29) 38 0 (x1 : Int32).toNatClampNeg 0) 37 0 (x1 : Int32).toNatClampNeg (r29 + 1)) h128) rfl rfl dX8_callBus_128 rfl (Nat.le_of_ble_eq_true rfl) ⟨rfl, rfl, Nat.le_of_ble_eq_true rfl, Nat.le_of_ble_eq_true rfl⟩ ⟨Nat.le_of_ble_eq_true rfl, Nat.le_of_ble_eq_true rfl⟩ rfl ?_
        refine r_iastA (pc' := 132) h0 (ia_38 g) (Nat.le_of_ble_eq_true rfl) dX8_callBus_131 rfl h (fun h => ?_)
        refine r_goto (pc' := 178) h0 dX8_callBus_132 rfl ?_
        refine r_sub (L' := [(0, .ref (wA (wR g) 8 0)), (1, .int x1)]) [2, 3] rfl ?_
        exact w_X8_callBus_178 h0 fu x1 x2 hE (wI (wI (wI (wI (wI (wI (wI (wI S7 8 0 3 1) 34 0 (x1 : Int32).toNatClampNeg (nb 1)) 35 0 (x1 : Int32).toNatClampNeg r57) 36 0 (x1 : Int32).toNatClampNeg r29) 37 0 (x1 : Int32).toNatClampNeg r29) 38 0 (x1 : Int32).toNatClampNeg 0) 37 0 (x1 : Int32).toNatClampNeg (r29 + 1)) 38 0 (x1 : Int32).toNatClampNeg r128) h
  · refine r_iconst (pc' := 14) h0 dX8_callBus_13 ki_0 rfl ?_
    exact r_iret h0 hE dX8_callBus_14 h
/-- the machine does what f_X8_clock says -/
theorem c_X8_clock (g : GR) (fu : Nat) (S : Mem) {r : Int32} {S' : Mem} (h : f_X8_clock fu S = some (r, S')) : ctN yX8_clock cX8_clock 1 (some .int) rm_X8_clock (wR g) [.ref (wA (wR g) 8 0)] S (some (.int r)) S' := by
  refine ct_of (own := RX8) (L := [(0, .ref (wA (wR g) 8 0))]) (by decide +kernel) rfl (Nat.le_of_ble_eq_true rfl) rfl (fun X h0 hE => ?_)
  rw [f_X8_clock] at h
  refine r_aload_n (pc' := 1) h0 0 dX8_clock_0 rfl rfl rfl ?_
  refine r_iconst (pc' := 2) h0 dX8_clock_1 ki_0 rfl ?_
  refine pf_X8_72 (pc' := 5) h0 (Nat.le_of_ble_eq_true rfl) dX8_clock_2 rfl ?_
  refine r_aload_n (pc' := 6) h0 0 dX8_clock_5 rfl rfl rfl ?_
  refine gf_X8_90 (pc' := 9) h0 (Nat.le_of_ble_eq_true rfl) dX8_clock_6 rfl ?_
  exact r_iret h0 hE dX8_clock_9 h
theorem w_X8_phaseNow_46 {g : GR} {X : MX} {r : Int32} {S' : Mem} (h0 : CX RX8 cX8_phaseNow 2 rm_X8_phaseNow X (wR g)) (fu : Nat) (x1 : Int32) (hE : EN (some .int) (some (.int r)) S' X (wR g)) : ∀ (t0 : Int32) (S : Mem), f_X8_phaseNow_46 fu x1 t0 S = some (r, S') → GV X (wR g) 2 0 0 S [] 46 [.int t0] := by
  intro t0 S h
  rw [f_X8_phaseNow_46] at h
  exact r_iret h0 hE dX8_phaseNow_46 h
theorem w_X8_phaseNow_26 {g : GR} {X : MX} {r : Int32} {S' : Mem} (h0 : CX RX8 cX8_phaseNow 2 rm_X8_phaseNow X (wR g)) (fu : Nat) (x1 : Int32) (hE : EN (some .int) (some (.int r)) S' X (wR g)) : ∀ (t0 : Int32) (S : Mem), f_X8_phaseNow_26 fu x1 t0 S = some (r, S') → GV X (wR g) 2 0 0 S [(0, .ref (wA (wR g) 8 0)), (1, .int x1)] 26 [.int t0, .ref (wA (wR g) 8 0)] := by
  intro t0 S h
  rw [f_X8_phaseNow_26] at h
  obtain ⟨r26, S26, h26, h⟩ := b2_some h
  refine go_V (k_X8_102 g) (st2 := [.int r26]) (pc' := 29) [.int t0] [] h0 (Nat.le_of_ble_eq_true rfl) (c_X8_holds g fu t0 S h26) rfl rfl dX8_phaseNow_26 rfl (Nat.le_of_ble_eq_true rfl) ⟨rfl, rfl, Nat.le_of_ble_eq_true rfl, Nat.le_of_ble_eq_true rfl⟩ ⟨Nat.le_of_ble_eq_true rfl, Nat.le_of_ble_eq_true rfl⟩ rfl ?_
  refine r_if_eq (pt := 45) (pf := 32) h0 dX8_phaseNow_29 rfl rfl h (fun c29 h => ?_) (fun c29 h => ?_)
  · refine r_iconst (pc' := 46) h0 dX8_phaseNow_45 ki_0 rfl ?_
    refine r_sub (L' := []) [] rfl ?_
    exact w_X8_phaseNow_46 h0 fu x1 hE 0 S26 h
  · refine r_aload_n (pc' := 33) h0 0 dX8_phaseNow_32 rfl rfl rfl ?_
    refine r_iload_n (pc' := 34) h0 1 dX8_phaseNow_33 rfl rfl rfl ?_
    refine r_aload_n (pc' := 35) h0 0 dX8_phaseNow_34 rfl rfl rfl ?_
    refine gf_X8_90 (pc' := 38) h0 (Nat.le_of_ble_eq_true rfl) dX8_phaseNow_35 rfl ?_
    refine r_iconst (pc' := 39) h0 dX8_phaseNow_38 ki_1 rfl ?_
    obtain ⟨r39, h39, h⟩ := b1_some h
    refine go_V (k_X8_154 g) (st2 := [.int r39]) (pc' := 42) [.int x1, .int (S26.1 8 0 14), .int 1] [] h0 (Nat.le_of_ble_eq_true rfl) (c_X8_phaseAt g fu x1 (S26.1 8 0 14) 1 S26 h39) rfl rfl dX8_phaseNow_39 rfl (Nat.le_of_ble_eq_true rfl) ⟨rfl, rfl, Nat.le_of_ble_eq_true rfl, Nat.le_of_ble_eq_true rfl⟩ ⟨Nat.le_of_ble_eq_true rfl, Nat.le_of_ble_eq_true rfl⟩ rfl ?_
    refine r_goto (pc' := 46) h0 dX8_phaseNow_42 rfl ?_
    refine r_sub (L' := []) [] rfl ?_
    exact w_X8_phaseNow_46 h0 fu x1 hE r39 S26 h
/-- the machine does what f_X8_phaseNow says -/
theorem c_X8_phaseNow (g : GR) (fu : Nat) (x1 : Int32) (S : Mem) {r : Int32} {S' : Mem} (h : f_X8_phaseNow fu x1 S = some (r, S')) : ctN yX8_phaseNow cX8_phaseNow 2 (some .int) rm_X8_phaseNow (wR g) [.ref (wA (wR g) 8 0), .int x1] S (some (.int r)) S' := by
  refine ct_of (own := RX8) (L := [(0, .ref (wA (wR g) 8 0)), (1, .int x1)]) (by decide +kernel) rfl (Nat.le_of_ble_eq_true rfl) rfl (fun X h0 hE => ?_)
  rw [f_X8_phaseNow] at h
  refine r_aload_n (pc' := 1) h0 0 dX8_phaseNow_0 rfl rfl rfl ?_
  refine r_aload_n (pc' := 2) h0 0 dX8_phaseNow_1 rfl rfl rfl ?_
  refine r_iload_n (pc' := 3) h0 1 dX8_phaseNow_2 rfl rfl rfl ?_
  obtain ⟨r3, h3, h⟩ := b1_some h
  refine go_V (k_X8_118 g) (st2 := [.int r3, .ref (wA (wR g) 8 0)]) (pc' := 6) [.int x1] [.ref (wA (wR g) 8 0)] h0 (Nat.le_of_ble_eq_true rfl) (c_X8_isJunction g fu x1 S h3) rfl rfl dX8_phaseNow_3 rfl (Nat.le_of_ble_eq_true rfl) ⟨rfl, rfl, Nat.le_of_ble_eq_true rfl, Nat.le_of_ble_eq_true rfl⟩ ⟨Nat.le_of_ble_eq_true rfl, Nat.le_of_ble_eq_true rfl⟩ rfl ?_
  refine r_if_ne (pt := 13) (pf := 9) h0 dX8_phaseNow_6 rfl rfl h (fun c6 h => ?_) (fun c6 h => ?_)
  · refine r_aload_n (pc' := 14) h0 0 dX8_phaseNow_13 rfl rfl rfl ?_
    refine r_iload_n (pc' := 15) h0 1 dX8_phaseNow_14 rfl rfl rfl ?_
    obtain ⟨r15, S15, h15, h⟩ := b2_some h
    refine go_V (k_X8_181 g) (st2 := [.int r15, .ref (wA (wR g) 8 0)]) (pc' := 18) [.int x1] [.ref (wA (wR g) 8 0)] h0 (Nat.le_of_ble_eq_true rfl) (c_X8_isPlanned g fu x1 S h15) rfl rfl dX8_phaseNow_15 rfl (Nat.le_of_ble_eq_true rfl) ⟨rfl, rfl, Nat.le_of_ble_eq_true rfl, Nat.le_of_ble_eq_true rfl⟩ ⟨Nat.le_of_ble_eq_true rfl, Nat.le_of_ble_eq_true rfl⟩ rfl ?_
    refine r_if_eq (pt := 25) (pf := 21) h0 dX8_phaseNow_18 rfl rfl h (fun c18 h => ?_) (fun c18 h => ?_)
    · refine r_iconst (pc' := 26) h0 dX8_phaseNow_25 ki_2 rfl ?_
      exact w_X8_phaseNow_26 h0 fu x1 hE 2 S15 h
    · refine r_iconst (pc' := 22) h0 dX8_phaseNow_21 ki_0 rfl ?_
      refine r_goto (pc' := 26) h0 dX8_phaseNow_22 rfl ?_
      exact w_X8_phaseNow_26 h0 fu x1 hE 0 S15 h
  · refine r_iconst (pc' := 10) h0 dX8_phaseNow_9 ki_1 rfl ?_
    refine r_goto (pc' := 26) h0 dX8_phaseNow_10 rfl ?_
    exact w_X8_phaseNow_26 h0 fu x1 hE 1 S h
theorem w_X8_queue_30 {g : GR} {X : MX} {r : Int32} {S' : Mem} (h0 : CX RX8 cX8_queue 2 rm_X8_queue X (wR g)) (fu : Nat) (x1 : Int32) (hE : EN (some .int) (some (.int r)) S' X (wR g)) : ∀ (t0 : Int32) (S : Mem), f_X8_queue_30 fu x1 t0 S = some (r, S') → GV X (wR g) 2 0 0 S [] 30 [.int t0] := by
  intro t0 S h
  rw [f_X8_queue_30] at h
  exact r_iret h0 hE dX8_queue_30 h
theorem w_X8_queue_14 {g : GR} {X : MX} {r : Int32} {S' : Mem} (h0 : CX RX8 cX8_queue 2 rm_X8_queue X (wR g)) (fu : Nat) (x1 : Int32) (hE : EN (some .int) (some (.int r)) S' X (wR g)) : ∀ (t0 : Int32) (S : Mem), f_X8_queue_14 fu x1 t0 S = some (r, S') → GV X (wR g) 2 0 0 S [(0, .ref (wA (wR g) 8 0)), (1, .int x1)] 14 [.int t0, .ref (wA (wR g) 8 0)] := by
  intro t0 S h
  rw [f_X8_queue_14] at h
  obtain ⟨r14, S14, h14, h⟩ := b2_some h
  refine go_V (k_X8_102 g) (st2 := [.int r14]) (pc' := 17) [.int t0] [] h0 (Nat.le_of_ble_eq_true rfl) (c_X8_holds g fu t0 S h14) rfl rfl dX8_queue_14 rfl (Nat.le_of_ble_eq_true rfl) ⟨rfl, rfl, Nat.le_of_ble_eq_true rfl, Nat.le_of_ble_eq_true rfl⟩ ⟨Nat.le_of_ble_eq_true rfl, Nat.le_of_ble_eq_true rfl⟩ rfl ?_
  refine r_if_eq (pt := 29) (pf := 20) h0 dX8_queue_17 rfl rfl h (fun c17 h => ?_) (fun c17 h => ?_)
  · refine r_iconst (pc' := 30) h0 dX8_queue_29 ki_0 rfl ?_
    refine r_sub (L' := []) [] rfl ?_
    exact w_X8_queue_30 h0 fu x1 hE 0 S14 h
  · refine r_aload_n (pc' := 21) h0 0 dX8_queue_20 rfl rfl rfl ?_
    refine gf_X8_41 (pc' := 24) h0 (Nat.le_of_ble_eq_true rfl) dX8_queue_21 rfl ?_
    refine r_iload_n (pc' := 25) h0 1 dX8_queue_24 rfl rfl rfl ?_
    refine r_ialdA (pc' := 26) h0 (ia_30 g) (Nat.le_of_ble_eq_true rfl) dX8_queue_25 rfl h (fun h => ?_)
    refine r_goto (pc' := 30) h0 dX8_queue_26 rfl ?_
    refine r_sub (L' := []) [] rfl ?_
    exact w_X8_queue_30 h0 fu x1 hE (S14.1 30 0 (x1 : Int32).toNatClampNeg) S14 h
/-- the machine does what f_X8_queue says -/
theorem c_X8_queue (g : GR) (fu : Nat) (x1 : Int32) (S : Mem) {r : Int32} {S' : Mem} (h : f_X8_queue fu x1 S = some (r, S')) : ctN yX8_queue cX8_queue 2 (some .int) rm_X8_queue (wR g) [.ref (wA (wR g) 8 0), .int x1] S (some (.int r)) S' := by
  refine ct_of (own := RX8) (L := [(0, .ref (wA (wR g) 8 0)), (1, .int x1)]) (by decide +kernel) rfl (Nat.le_of_ble_eq_true rfl) rfl (fun X h0 hE => ?_)
  rw [f_X8_queue] at h
  refine r_aload_n (pc' := 1) h0 0 dX8_queue_0 rfl rfl rfl ?_
  refine r_aload_n (pc' := 2) h0 0 dX8_queue_1 rfl rfl rfl ?_
  refine r_iload_n (pc' := 3) h0 1 dX8_queue_2 rfl rfl rfl ?_
  obtain ⟨r3, h3, h⟩ := b1_some h
  refine go_V (k_X8_118 g) (st2 := [.int r3, .ref (wA (wR g) 8 0)]) (pc' := 6) [.int x1] [.ref (wA (wR g) 8 0)] h0 (Nat.le_of_ble_eq_true rfl) (c_X8_isJunction g fu x1 S h3) rfl rfl dX8_queue_3 rfl (Nat.le_of_ble_eq_true rfl) ⟨rfl, rfl, Nat.le_of_ble_eq_true rfl, Nat.le_of_ble_eq_true rfl⟩ ⟨Nat.le_of_ble_eq_true rfl, Nat.le_of_ble_eq_true rfl⟩ rfl ?_
  refine r_if_eq (pt := 13) (pf := 9) h0 dX8_queue_6 rfl rfl h (fun c6 h => ?_) (fun c6 h => ?_)
  · refine r_iconst (pc' := 14) h0 dX8_queue_13 ki_1 rfl ?_
    exact w_X8_queue_14 h0 fu x1 hE 1 S h
  · refine r_iconst (pc' := 10) h0 dX8_queue_9 ki_0 rfl ?_
    refine r_goto (pc' := 14) h0 dX8_queue_10 rfl ?_
    exact w_X8_queue_14 h0 fu x1 hE 0 S h
theorem w_X8_held_29 {g : GR} {X : MX} {r : Int32} {S' : Mem} (h0 : CX RX8 cX8_held 2 rm_X8_held X (wR g)) (fu : Nat) (x1 : Int32) (hE : EN (some .int) (some (.int r)) S' X (wR g)) : ∀ (t0 : Int32) (S : Mem), f_X8_held_29 fu x1 t0 S = some (r, S') → GV X (wR g) 2 0 0 S [] 29 [.int t0] := by
  intro t0 S h
  rw [f_X8_held_29] at h
  exact r_iret h0 hE dX8_held_29 h
theorem w_X8_held_14 {g : GR} {X : MX} {r : Int32} {S' : Mem} (h0 : CX RX8 cX8_held 2 rm_X8_held X (wR g)) (fu : Nat) (x1 : Int32) (hE : EN (some .int) (some (.int r)) S' X (wR g)) : ∀ (t0 : Int32) (S : Mem), f_X8_held_14 fu x1 t0 S = some (r, S') → GV X (wR g) 2 0 0 S [(0, .ref (wA (wR g) 8 0)), (1, .int x1)] 14 [.int t0, .ref (wA (wR g) 8 0)] := by
  intro t0 S h
  rw [f_X8_held_14] at h
  obtain ⟨r14, S14, h14, h⟩ := b2_some h
  refine go_V (k_X8_102 g) (st2 := [.int r14]) (pc' := 17) [.int t0] [] h0 (Nat.le_of_ble_eq_true rfl) (c_X8_holds g fu t0 S h14) rfl rfl dX8_held_14 rfl (Nat.le_of_ble_eq_true rfl) ⟨rfl, rfl, Nat.le_of_ble_eq_true rfl, Nat.le_of_ble_eq_true rfl⟩ ⟨Nat.le_of_ble_eq_true rfl, Nat.le_of_ble_eq_true rfl⟩ rfl ?_
  refine r_if_eq (pt := 28) (pf := 20) h0 dX8_held_17 rfl rfl h (fun c17 h => ?_) (fun c17 h => ?_)
  · refine r_iconst (pc' := 29) h0 dX8_held_28 ki_0 rfl ?_
    refine r_sub (L' := []) [] rfl ?_
    exact w_X8_held_29 h0 fu x1 hE 0 S14 h
  · refine r_aload_n (pc' := 21) h0 0 dX8_held_20 rfl rfl rfl ?_
    refine r_iload_n (pc' := 22) h0 1 dX8_held_21 rfl rfl rfl ?_
    obtain ⟨r22, h22, h⟩ := b1_some h
    refine go_V (k_X8_191 g) (st2 := [.int r22]) (pc' := 25) [.int x1] [] h0 (Nat.le_of_ble_eq_true rfl) (c_X8_heldOf g fu x1 S14 h22) rfl rfl dX8_held_22 rfl (Nat.le_of_ble_eq_true rfl) ⟨rfl, rfl, Nat.le_of_ble_eq_true rfl, Nat.le_of_ble_eq_true rfl⟩ ⟨Nat.le_of_ble_eq_true rfl, Nat.le_of_ble_eq_true rfl⟩ rfl ?_
    refine r_goto (pc' := 29) h0 dX8_held_25 rfl ?_
    refine r_sub (L' := []) [] rfl ?_
    exact w_X8_held_29 h0 fu x1 hE r22 S14 h
/-- the machine does what f_X8_held says -/
theorem c_X8_held (g : GR) (fu : Nat) (x1 : Int32) (S : Mem) {r : Int32} {S' : Mem} (h : f_X8_held fu x1 S = some (r, S')) : ctN yX8_held cX8_held 2 (some .int) rm_X8_held (wR g) [.ref (wA (wR g) 8 0), .int x1] S (some (.int r)) S' := by
  refine ct_of (own := RX8) (L := [(0, .ref (wA (wR g) 8 0)), (1, .int x1)]) (by decide +kernel) rfl (Nat.le_of_ble_eq_true rfl) rfl (fun X h0 hE => ?_)
  rw [f_X8_held] at h
  refine r_aload_n (pc' := 1) h0 0 dX8_held_0 rfl rfl rfl ?_
  refine r_aload_n (pc' := 2) h0 0 dX8_held_1 rfl rfl rfl ?_
  refine r_iload_n (pc' := 3) h0 1 dX8_held_2 rfl rfl rfl ?_
  obtain ⟨r3, h3, h⟩ := b1_some h
  refine go_V (k_X8_131 g) (st2 := [.int r3, .ref (wA (wR g) 8 0)]) (pc' := 6) [.int x1] [.ref (wA (wR g) 8 0)] h0 (Nat.le_of_ble_eq_true rfl) (c_X8_isLink g fu x1 S h3) rfl rfl dX8_held_3 rfl (Nat.le_of_ble_eq_true rfl) ⟨rfl, rfl, Nat.le_of_ble_eq_true rfl, Nat.le_of_ble_eq_true rfl⟩ ⟨Nat.le_of_ble_eq_true rfl, Nat.le_of_ble_eq_true rfl⟩ rfl ?_
  refine r_if_eq (pt := 13) (pf := 9) h0 dX8_held_6 rfl rfl h (fun c6 h => ?_) (fun c6 h => ?_)
  · refine r_iconst (pc' := 14) h0 dX8_held_13 ki_1 rfl ?_
    exact w_X8_held_14 h0 fu x1 hE 1 S h
  · refine r_iconst (pc' := 10) h0 dX8_held_9 ki_0 rfl ?_
    refine r_goto (pc' := 14) h0 dX8_held_10 rfl ?_
    exact w_X8_held_14 h0 fu x1 hE 0 S h
/-- the machine does what f_X8_come says -/
theorem c_X8_come (g : GR) (fu : Nat) (S : Mem) {r : Int32} {S' : Mem} (h : f_X8_come fu S = some (r, S')) : ctN yX8_come cX8_come 1 (some .int) rm_X8_come (wR g) [.ref (wA (wR g) 8 0)] S (some (.int r)) S' := by
  refine ct_of (own := RX8) (L := [(0, .ref (wA (wR g) 8 0))]) (by decide +kernel) rfl (Nat.le_of_ble_eq_true rfl) rfl (fun X h0 hE => ?_)
  rw [f_X8_come] at h
  refine r_aload_n (pc' := 1) h0 0 dX8_come_0 rfl rfl rfl ?_
  refine r_iconst (pc' := 2) h0 dX8_come_1 ki_0 rfl ?_
  refine pf_X8_72 (pc' := 5) h0 (Nat.le_of_ble_eq_true rfl) dX8_come_2 rfl ?_
  refine r_aload_n (pc' := 6) h0 0 dX8_come_5 rfl rfl rfl ?_
  refine gf_X8_96 (pc' := 9) h0 (Nat.le_of_ble_eq_true rfl) dX8_come_6 rfl ?_
  exact r_iret h0 hE dX8_come_9 h
/-- the machine does what f_X8_through says -/
theorem c_X8_through (g : GR) (fu : Nat) (S : Mem) {r : Int32} {S' : Mem} (h : f_X8_through fu S = some (r, S')) : ctN yX8_through cX8_through 1 (some .int) rm_X8_through (wR g) [.ref (wA (wR g) 8 0)] S (some (.int r)) S' := by
  refine ct_of (own := RX8) (L := [(0, .ref (wA (wR g) 8 0))]) (by decide +kernel) rfl (Nat.le_of_ble_eq_true rfl) rfl (fun X h0 hE => ?_)
  rw [f_X8_through] at h
  refine r_aload_n (pc' := 1) h0 0 dX8_through_0 rfl rfl rfl ?_
  refine r_iconst (pc' := 2) h0 dX8_through_1 ki_0 rfl ?_
  refine pf_X8_72 (pc' := 5) h0 (Nat.le_of_ble_eq_true rfl) dX8_through_2 rfl ?_
  refine r_aload_n (pc' := 6) h0 0 dX8_through_5 rfl rfl rfl ?_
  refine gf_X8_99 (pc' := 9) h0 (Nat.le_of_ble_eq_true rfl) dX8_through_6 rfl ?_
  exact r_iret h0 hE dX8_through_9 h
