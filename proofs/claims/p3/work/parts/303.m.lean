set_option maxHeartbeats 4000000 in
set_option maxRecDepth 100000 in
theorem c_X2_typeOf (a : Nat → Nat) (g : Nat → Nat → Int32) (r : Nat → Nat) (σ0 : St) (a0 : Int32) (qa1 : Nat) (hqa1 : isOp qa1) (qa2 : Nat) (hqa2 : isOp qa2) (i0 : Inv σ0) (l : Launch) (D : va_G) (cy : Nat → ClassId) : Ct l D cy SC r (EC a g) y_X2_typeOf (Cond.code y_X2_typeOf b_X2_typeOf 4 (some .int)) 1 [.int a0, .ref (r qa1), .ref (r qa2)] σ0 Z0 [] (QI (fun _ σ9 => σ9 = σ0)) QF := by
  refine Ct_of (EC_ok a g) (by decide) (Nat.le_of_ble_eq_true rfl) (by decide) (fun X hnn hF => ?_)
  show G SC r X σ0 Z0 [] [(0, .int a0), (1, .ref (r qa1)), (2, .ref (r qa2))] [] 0
  refine g_aload_n hF d_X2_typeOf_0 rfl 1 rfl ?_
  refine g_getN hF 1 (obC_op hqa1) (by decide) nm_402 (fval_op hqa1) d_X2_typeOf_1 ?_
  refine g_any (fun v1 => ?_)
  refine g_iconst hF (v := (-1)) d_X2_typeOf_4 (by decide) ?_
  refine g_icmp_eq (yv := -1) hF 16 d_X2_typeOf_5 (by decide) rfl (by decide) (fun c2_5 => ?_) (fun c2_5 => ?_)
  · -- taken at 5
    refine g_bipush hF (v := (-2)) d_X2_typeOf_16 (by decide) ?_
    exact g_iret hF rfl d_X2_typeOf_18 ⟨rfl, rfl, ((-2) : Int32), rfl, rfl⟩
  · -- not taken at 5
    refine g_aload_n hF d_X2_typeOf_8 rfl 2 rfl ?_
    refine g_getN hF 1 (obC_op hqa2) (by decide) nm_402 (fval_op hqa2) d_X2_typeOf_9 ?_
    refine g_any (fun v3 => ?_)
    refine g_iconst hF (v := (-1)) d_X2_typeOf_12 (by decide) ?_
    refine g_icmp_ne (yv := -1) hF 19 d_X2_typeOf_13 (by decide) rfl (by decide) (fun c4_13 => ?_) (fun c4_13 => ?_)
    · -- taken at 13
      refine g_aload_n hF d_X2_typeOf_19 rfl 1 rfl ?_
      refine g_getN hF 1 (obC_op hqa1) (by decide) nm_402 (fval_op hqa1) d_X2_typeOf_20 ?_
      refine g_any (fun v5 => ?_)
      refine g_aload_n hF d_X2_typeOf_23 rfl 2 rfl ?_
      refine g_getN hF 1 (obC_op hqa2) (by decide) nm_402 (fval_op hqa2) d_X2_typeOf_24 ?_
      refine g_any (fun v6 => ?_)
      refine g_icmp_ne hF 34 d_X2_typeOf_27 (by decide) rfl rfl (fun c7_27 => ?_) (fun c7_27 => ?_)
      · -- taken at 27
        refine g_iconst hF (v := 0) d_X2_typeOf_34 (by decide) ?_
        refine g_istore_n hF [(3, .int 0), (0, .int a0), (1, .ref (r qa1)), (2, .ref (r qa2))] d_X2_typeOf_35 rfl hnn (by decide) rfl ?_
        refine g_iload_n hF d_X2_typeOf_36 rfl 1 rfl ?_
        refine (Decidable.em (a0.toInt = 43)).elim (fun q8_37_0 => ?_) (fun q8_37_0 => ?_)
        · refine g_tableIn (off := 121) hF 158 d_X2_typeOf_37 q8_37_0 (by decide) (by decide) (by decide +kernel) (by decide) ?_
          refine g_aload_n hF d_X2_typeOf_158 rfl 3 rfl ?_
          refine g_getN hF 1 (obC_op hqa2) (by decide) nm_402 (fval_op hqa2) d_X2_typeOf_159 ?_
          refine g_any (fun v9 => ?_)
          refine g_if_ne hF 172 d_X2_typeOf_162 (by decide) rfl (fun c10_162 => ?_) (fun c10_162 => ?_)
          · -- taken at 162
            refine g_aload_n hF d_X2_typeOf_172 rfl 2 rfl ?_
            refine g_getN hF 1 (obC_op hqa1) (by decide) nm_402 (fval_op hqa1) d_X2_typeOf_173 ?_
            refine g_any (fun v11 => ?_)
            refine g_if_ne hF 186 d_X2_typeOf_176 (by decide) rfl (fun c12_176 => ?_) (fun c12_176 => ?_)
            · -- taken at 176
              refine g_bipush hF (v := (-2)) d_X2_typeOf_186 (by decide) ?_
              exact g_iret hF rfl d_X2_typeOf_188 ⟨rfl, rfl, ((-2) : Int32), rfl, rfl⟩
            · -- not taken at 176
              refine g_aload_n hF d_X2_typeOf_179 rfl 3 rfl ?_
              refine g_getN hF 1 (obC_op hqa2) (by decide) nm_402 (fval_op hqa2) d_X2_typeOf_180 ?_
              refine g_any (fun v13 => ?_)
              refine g_goto hF 188 d_X2_typeOf_183 (by decide) ?_
              exact g_iret hF rfl d_X2_typeOf_188 ⟨rfl, rfl, v13, rfl, rfl⟩
          · -- not taken at 162
            refine g_aload_n hF d_X2_typeOf_165 rfl 2 rfl ?_
            refine g_getN hF 1 (obC_op hqa1) (by decide) nm_402 (fval_op hqa1) d_X2_typeOf_166 ?_
            refine g_any (fun v14 => ?_)
            refine g_goto hF 188 d_X2_typeOf_169 (by decide) ?_
            exact g_iret hF rfl d_X2_typeOf_188 ⟨rfl, rfl, v14, rfl, rfl⟩
        refine (Decidable.em (a0.toInt = 44)).elim (fun q15_37_1 => ?_) (fun q15_37_1 => ?_)
        · refine g_tableIn (off := 152) hF 189 d_X2_typeOf_37 q15_37_1 (by decide) (by decide) (by decide +kernel) (by decide) ?_
          refine g_aload_n hF d_X2_typeOf_189 rfl 3 rfl ?_
          refine g_getN hF 1 (obC_op hqa2) (by decide) nm_402 (fval_op hqa2) d_X2_typeOf_190 ?_
          refine g_any (fun v16 => ?_)
          refine g_if_ne hF 203 d_X2_typeOf_193 (by decide) rfl (fun c17_193 => ?_) (fun c17_193 => ?_)
          · -- taken at 193
            refine g_iload_n hF d_X2_typeOf_203 rfl 0 rfl ?_
            refine g_if_eq (xv := 0) hF 211 d_X2_typeOf_204 (by decide) (by decide) (fun _ => ?_) (fun c_204 => absurd c_204 (by decide))
            refine g_bipush hF (v := (-2)) d_X2_typeOf_211 (by decide) ?_
            exact g_iret hF rfl d_X2_typeOf_213 ⟨rfl, rfl, ((-2) : Int32), rfl, rfl⟩
          · -- not taken at 193
            refine g_aload_n hF d_X2_typeOf_196 rfl 2 rfl ?_
            refine g_getN hF 1 (obC_op hqa1) (by decide) nm_402 (fval_op hqa1) d_X2_typeOf_197 ?_
            refine g_any (fun v18 => ?_)
            refine g_goto hF 213 d_X2_typeOf_200 (by decide) ?_
            exact g_iret hF rfl d_X2_typeOf_213 ⟨rfl, rfl, v18, rfl, rfl⟩
        refine (Decidable.em (a0.toInt = 45)).elim (fun q19_37_2 => ?_) (fun q19_37_2 => ?_)
        · refine g_tableIn (off := 177) hF 214 d_X2_typeOf_37 q19_37_2 (by decide) (by decide) (by decide +kernel) (by decide) ?_
          refine g_iload_n hF d_X2_typeOf_214 rfl 0 rfl ?_
          refine g_if_eq (xv := 0) hF 229 d_X2_typeOf_215 (by decide) (by decide) (fun _ => ?_) (fun c_215 => absurd c_215 (by decide))
          refine g_bipush hF (v := (-2)) d_X2_typeOf_229 (by decide) ?_
          exact g_iret hF rfl d_X2_typeOf_231 ⟨rfl, rfl, ((-2) : Int32), rfl, rfl⟩
        refine (Decidable.em (a0.toInt = 46)).elim (fun q20_37_3 => ?_) (fun q20_37_3 => ?_)
        · refine g_tableIn (off := 177) hF 214 d_X2_typeOf_37 q20_37_3 (by decide) (by decide) (by decide +kernel) (by decide) ?_
          refine g_iload_n hF d_X2_typeOf_214 rfl 0 rfl ?_
          refine g_if_eq (xv := 0) hF 229 d_X2_typeOf_215 (by decide) (by decide) (fun _ => ?_) (fun c_215 => absurd c_215 (by decide))
          refine g_bipush hF (v := (-2)) d_X2_typeOf_229 (by decide) ?_
          exact g_iret hF rfl d_X2_typeOf_231 ⟨rfl, rfl, ((-2) : Int32), rfl, rfl⟩
        refine (Decidable.em (a0.toInt = 47)).elim (fun q21_37_4 => ?_) (fun q21_37_4 => ?_)
        · refine g_tableIn (off := 177) hF 214 d_X2_typeOf_37 q21_37_4 (by decide) (by decide) (by decide +kernel) (by decide) ?_
          refine g_iload_n hF d_X2_typeOf_214 rfl 0 rfl ?_
          refine g_if_eq (xv := 0) hF 229 d_X2_typeOf_215 (by decide) (by decide) (fun _ => ?_) (fun c_215 => absurd c_215 (by decide))
          refine g_bipush hF (v := (-2)) d_X2_typeOf_229 (by decide) ?_
          exact g_iret hF rfl d_X2_typeOf_231 ⟨rfl, rfl, ((-2) : Int32), rfl, rfl⟩
        refine (Decidable.em (a0.toInt = 48)).elim (fun q22_37_5 => ?_) (fun q22_37_5 => ?_)
        · refine g_tableIn (off := 177) hF 214 d_X2_typeOf_37 q22_37_5 (by decide) (by decide) (by decide +kernel) (by decide) ?_
          refine g_iload_n hF d_X2_typeOf_214 rfl 0 rfl ?_
          refine g_if_eq (xv := 0) hF 229 d_X2_typeOf_215 (by decide) (by decide) (fun _ => ?_) (fun c_215 => absurd c_215 (by decide))
          refine g_bipush hF (v := (-2)) d_X2_typeOf_229 (by decide) ?_
          exact g_iret hF rfl d_X2_typeOf_231 ⟨rfl, rfl, ((-2) : Int32), rfl, rfl⟩
        refine (Decidable.em (a0.toInt = 49)).elim (fun q23_37_6 => ?_) (fun q23_37_6 => ?_)
        · refine g_tableIn (off := 177) hF 214 d_X2_typeOf_37 q23_37_6 (by decide) (by decide) (by decide +kernel) (by decide) ?_
          refine g_iload_n hF d_X2_typeOf_214 rfl 0 rfl ?_
          refine g_if_eq (xv := 0) hF 229 d_X2_typeOf_215 (by decide) (by decide) (fun _ => ?_) (fun c_215 => absurd c_215 (by decide))
          refine g_bipush hF (v := (-2)) d_X2_typeOf_229 (by decide) ?_
          exact g_iret hF rfl d_X2_typeOf_231 ⟨rfl, rfl, ((-2) : Int32), rfl, rfl⟩
        refine (Decidable.em (a0.toInt = 50)).elim (fun q24_37_7 => ?_) (fun q24_37_7 => ?_)
        · refine g_tableIn (off := 177) hF 214 d_X2_typeOf_37 q24_37_7 (by decide) (by decide) (by decide +kernel) (by decide) ?_
          refine g_iload_n hF d_X2_typeOf_214 rfl 0 rfl ?_
          refine g_if_eq (xv := 0) hF 229 d_X2_typeOf_215 (by decide) (by decide) (fun _ => ?_) (fun c_215 => absurd c_215 (by decide))
          refine g_bipush hF (v := (-2)) d_X2_typeOf_229 (by decide) ?_
          exact g_iret hF rfl d_X2_typeOf_231 ⟨rfl, rfl, ((-2) : Int32), rfl, rfl⟩
        refine (Decidable.em (a0.toInt = 51)).elim (fun q25_37_8 => ?_) (fun q25_37_8 => ?_)
        · refine g_tableIn (off := 81) hF 118 d_X2_typeOf_37 q25_37_8 (by decide) (by decide) (by decide +kernel) (by decide) ?_
          refine g_aload_n hF d_X2_typeOf_118 rfl 2 rfl ?_
          refine g_aload_n hF d_X2_typeOf_119 rfl 3 rfl ?_
          refine g_getN hF 1 (obC_op hqa2) (by decide) nm_402 (fval_op hqa2) d_X2_typeOf_120 ?_
          refine g_any (fun v26 => ?_)
          refine g_callVN (As := [.int v26]) (rest := []) hF (c_X6_fits a g r σ0 v26 qa1 hqa1 i0) (Nat.le_of_ble_eq_true rfl) mV_X6_fits nm_1174 (recv_ob (obC_op hqa1)) rfl rfl (Nat.le_of_ble_eq_true rfl) d_X2_typeOf_123 (k_roz (fun r27 hz27 => ?_))
          refine g_if_ne hF 140 d_X2_typeOf_126 (by decide) rfl (fun c28_126 => ?_) (fun c28_126 => ?_)
          · -- taken at 126
            refine g_iconst hF (v := 0) d_X2_typeOf_140 (by decide) ?_
            refine g_goto hF 146 d_X2_typeOf_141 (by decide) ?_
            exact g_iret hF rfl d_X2_typeOf_146 ⟨rfl, rfl, (0 : Int32), rfl, rfl⟩
          · -- not taken at 126
            refine g_aload_n hF d_X2_typeOf_129 rfl 3 rfl ?_
            refine g_aload_n hF d_X2_typeOf_130 rfl 2 rfl ?_
            refine g_getN hF 1 (obC_op hqa1) (by decide) nm_402 (fval_op hqa1) d_X2_typeOf_131 ?_
            refine g_any (fun v29 => ?_)
            refine g_callVN (As := [.int v29]) (rest := []) hF (c_X6_fits a g r σ0 v29 qa2 hqa2 i0) (Nat.le_of_ble_eq_true rfl) mV_X6_fits nm_1174 (recv_ob (obC_op hqa2)) rfl rfl (Nat.le_of_ble_eq_true rfl) d_X2_typeOf_134 (k_roz (fun r30 hz30 => ?_))
            refine g_if_eq hF 144 d_X2_typeOf_137 (by decide) rfl (fun c31_137 => ?_) (fun c31_137 => ?_)
            · -- taken at 137
              refine g_bipush hF (v := (-2)) d_X2_typeOf_144 (by decide) ?_
              exact g_iret hF rfl d_X2_typeOf_146 ⟨rfl, rfl, ((-2) : Int32), rfl, rfl⟩
            · -- not taken at 137
              refine g_iconst hF (v := 0) d_X2_typeOf_140 (by decide) ?_
              refine g_goto hF 146 d_X2_typeOf_141 (by decide) ?_
              exact g_iret hF rfl d_X2_typeOf_146 ⟨rfl, rfl, (0 : Int32), rfl, rfl⟩
        refine (Decidable.em (a0.toInt = 52)).elim (fun q32_37_9 => ?_) (fun q32_37_9 => ?_)
        · refine g_tableIn (off := 81) hF 118 d_X2_typeOf_37 q32_37_9 (by decide) (by decide) (by decide +kernel) (by decide) ?_
          refine g_aload_n hF d_X2_typeOf_118 rfl 2 rfl ?_
          refine g_aload_n hF d_X2_typeOf_119 rfl 3 rfl ?_
          refine g_getN hF 1 (obC_op hqa2) (by decide) nm_402 (fval_op hqa2) d_X2_typeOf_120 ?_
          refine g_any (fun v33 => ?_)
          refine g_callVN (As := [.int v33]) (rest := []) hF (c_X6_fits a g r σ0 v33 qa1 hqa1 i0) (Nat.le_of_ble_eq_true rfl) mV_X6_fits nm_1174 (recv_ob (obC_op hqa1)) rfl rfl (Nat.le_of_ble_eq_true rfl) d_X2_typeOf_123 (k_roz (fun r34 hz34 => ?_))
          refine g_if_ne hF 140 d_X2_typeOf_126 (by decide) rfl (fun c35_126 => ?_) (fun c35_126 => ?_)
          · -- taken at 126
            refine g_iconst hF (v := 0) d_X2_typeOf_140 (by decide) ?_
            refine g_goto hF 146 d_X2_typeOf_141 (by decide) ?_
            exact g_iret hF rfl d_X2_typeOf_146 ⟨rfl, rfl, (0 : Int32), rfl, rfl⟩
          · -- not taken at 126
            refine g_aload_n hF d_X2_typeOf_129 rfl 3 rfl ?_
            refine g_aload_n hF d_X2_typeOf_130 rfl 2 rfl ?_
            refine g_getN hF 1 (obC_op hqa1) (by decide) nm_402 (fval_op hqa1) d_X2_typeOf_131 ?_
            refine g_any (fun v36 => ?_)
            refine g_callVN (As := [.int v36]) (rest := []) hF (c_X6_fits a g r σ0 v36 qa2 hqa2 i0) (Nat.le_of_ble_eq_true rfl) mV_X6_fits nm_1174 (recv_ob (obC_op hqa2)) rfl rfl (Nat.le_of_ble_eq_true rfl) d_X2_typeOf_134 (k_roz (fun r37 hz37 => ?_))
            refine g_if_eq hF 144 d_X2_typeOf_137 (by decide) rfl (fun c38_137 => ?_) (fun c38_137 => ?_)
            · -- taken at 137
              refine g_bipush hF (v := (-2)) d_X2_typeOf_144 (by decide) ?_
              exact g_iret hF rfl d_X2_typeOf_146 ⟨rfl, rfl, ((-2) : Int32), rfl, rfl⟩
            · -- not taken at 137
              refine g_iconst hF (v := 0) d_X2_typeOf_140 (by decide) ?_
              refine g_goto hF 146 d_X2_typeOf_141 (by decide) ?_
              exact g_iret hF rfl d_X2_typeOf_146 ⟨rfl, rfl, (0 : Int32), rfl, rfl⟩
        refine (Decidable.em (a0.toInt = 53)).elim (fun q39_37_10 => ?_) (fun q39_37_10 => ?_)
        · refine g_tableIn (off := 110) hF 147 d_X2_typeOf_37 q39_37_10 (by decide) (by decide) (by decide +kernel) (by decide) ?_
          refine g_iload_n hF d_X2_typeOf_147 rfl 0 rfl ?_
          refine g_if_eq (xv := 0) hF 155 d_X2_typeOf_148 (by decide) (by decide) (fun _ => ?_) (fun c_148 => absurd c_148 (by decide))
          refine g_bipush hF (v := (-2)) d_X2_typeOf_155 (by decide) ?_
          exact g_iret hF rfl d_X2_typeOf_157 ⟨rfl, rfl, ((-2) : Int32), rfl, rfl⟩
        refine (Decidable.em (a0.toInt = 54)).elim (fun q40_37_11 => ?_) (fun q40_37_11 => ?_)
        · refine g_tableIn (off := 110) hF 147 d_X2_typeOf_37 q40_37_11 (by decide) (by decide) (by decide +kernel) (by decide) ?_
          refine g_iload_n hF d_X2_typeOf_147 rfl 0 rfl ?_
          refine g_if_eq (xv := 0) hF 155 d_X2_typeOf_148 (by decide) (by decide) (fun _ => ?_) (fun c_148 => absurd c_148 (by decide))
          refine g_bipush hF (v := (-2)) d_X2_typeOf_155 (by decide) ?_
          exact g_iret hF rfl d_X2_typeOf_157 ⟨rfl, rfl, ((-2) : Int32), rfl, rfl⟩
        refine (Decidable.em (a0.toInt = 55)).elim (fun q41_37_12 => ?_) (fun q41_37_12 => ?_)
        · refine g_tableIn (off := 110) hF 147 d_X2_typeOf_37 q41_37_12 (by decide) (by decide) (by decide +kernel) (by decide) ?_
          refine g_iload_n hF d_X2_typeOf_147 rfl 0 rfl ?_
          refine g_if_eq (xv := 0) hF 155 d_X2_typeOf_148 (by decide) (by decide) (fun _ => ?_) (fun c_148 => absurd c_148 (by decide))
          refine g_bipush hF (v := (-2)) d_X2_typeOf_155 (by decide) ?_
          exact g_iret hF rfl d_X2_typeOf_157 ⟨rfl, rfl, ((-2) : Int32), rfl, rfl⟩
        refine (Decidable.em (a0.toInt = 56)).elim (fun q42_37_13 => ?_) (fun q42_37_13 => ?_)
        · refine g_tableIn (off := 110) hF 147 d_X2_typeOf_37 q42_37_13 (by decide) (by decide) (by decide +kernel) (by decide) ?_
          refine g_iload_n hF d_X2_typeOf_147 rfl 0 rfl ?_
          refine g_if_eq (xv := 0) hF 155 d_X2_typeOf_148 (by decide) (by decide) (fun _ => ?_) (fun c_148 => absurd c_148 (by decide))
          refine g_bipush hF (v := (-2)) d_X2_typeOf_155 (by decide) ?_
          exact g_iret hF rfl d_X2_typeOf_157 ⟨rfl, rfl, ((-2) : Int32), rfl, rfl⟩
        refine (Decidable.em (a0.toInt = 57)).elim (fun q43_37_14 => ?_) (fun q43_37_14 => ?_)
        · refine g_tableIn (off := 79) hF 116 d_X2_typeOf_37 q43_37_14 (by decide) (by decide) (by decide +kernel) (by decide) ?_
          refine g_iconst hF (v := 0) d_X2_typeOf_116 (by decide) ?_
          exact g_iret hF rfl d_X2_typeOf_117 ⟨rfl, rfl, (0 : Int32), rfl, rfl⟩
        refine (Decidable.em (a0.toInt = 58)).elim (fun q44_37_15 => ?_) (fun q44_37_15 => ?_)
        · refine g_tableIn (off := 79) hF 116 d_X2_typeOf_37 q44_37_15 (by decide) (by decide) (by decide +kernel) (by decide) ?_
          refine g_iconst hF (v := 0) d_X2_typeOf_116 (by decide) ?_
          exact g_iret hF rfl d_X2_typeOf_117 ⟨rfl, rfl, (0 : Int32), rfl, rfl⟩
        refine g_tableOut hF 214 d_X2_typeOf_37 rfl (by omega) (by decide) ?_
        refine g_iload_n hF d_X2_typeOf_214 rfl 0 rfl ?_
        refine g_if_eq (xv := 0) hF 229 d_X2_typeOf_215 (by decide) (by decide) (fun _ => ?_) (fun c_215 => absurd c_215 (by decide))
        refine g_bipush hF (v := (-2)) d_X2_typeOf_229 (by decide) ?_
        exact g_iret hF rfl d_X2_typeOf_231 ⟨rfl, rfl, ((-2) : Int32), rfl, rfl⟩
      · -- not taken at 27
        refine g_iconst hF (v := 1) d_X2_typeOf_30 (by decide) ?_
        refine g_goto hF 35 d_X2_typeOf_31 (by decide) ?_
        refine g_istore_n hF [(3, .int 1), (0, .int a0), (1, .ref (r qa1)), (2, .ref (r qa2))] d_X2_typeOf_35 rfl hnn (by decide) rfl ?_
        refine g_iload_n hF d_X2_typeOf_36 rfl 1 rfl ?_
        refine (Decidable.em (a0.toInt = 43)).elim (fun q45_37_0 => ?_) (fun q45_37_0 => ?_)
        · refine g_tableIn (off := 121) hF 158 d_X2_typeOf_37 q45_37_0 (by decide) (by decide) (by decide +kernel) (by decide) ?_
          refine g_aload_n hF d_X2_typeOf_158 rfl 3 rfl ?_
          refine g_getN hF 1 (obC_op hqa2) (by decide) nm_402 (fval_op hqa2) d_X2_typeOf_159 ?_
          refine g_any (fun v46 => ?_)
          refine g_if_ne hF 172 d_X2_typeOf_162 (by decide) rfl (fun c47_162 => ?_) (fun c47_162 => ?_)
          · -- taken at 162
            refine g_aload_n hF d_X2_typeOf_172 rfl 2 rfl ?_
            refine g_getN hF 1 (obC_op hqa1) (by decide) nm_402 (fval_op hqa1) d_X2_typeOf_173 ?_
            refine g_any (fun v48 => ?_)
            refine g_if_ne hF 186 d_X2_typeOf_176 (by decide) rfl (fun c49_176 => ?_) (fun c49_176 => ?_)
            · -- taken at 176
              refine g_bipush hF (v := (-2)) d_X2_typeOf_186 (by decide) ?_
              exact g_iret hF rfl d_X2_typeOf_188 ⟨rfl, rfl, ((-2) : Int32), rfl, rfl⟩
            · -- not taken at 176
              refine g_aload_n hF d_X2_typeOf_179 rfl 3 rfl ?_
              refine g_getN hF 1 (obC_op hqa2) (by decide) nm_402 (fval_op hqa2) d_X2_typeOf_180 ?_
              refine g_any (fun v50 => ?_)
              refine g_goto hF 188 d_X2_typeOf_183 (by decide) ?_
              exact g_iret hF rfl d_X2_typeOf_188 ⟨rfl, rfl, v50, rfl, rfl⟩
          · -- not taken at 162
            refine g_aload_n hF d_X2_typeOf_165 rfl 2 rfl ?_
            refine g_getN hF 1 (obC_op hqa1) (by decide) nm_402 (fval_op hqa1) d_X2_typeOf_166 ?_
            refine g_any (fun v51 => ?_)
            refine g_goto hF 188 d_X2_typeOf_169 (by decide) ?_
            exact g_iret hF rfl d_X2_typeOf_188 ⟨rfl, rfl, v51, rfl, rfl⟩
        refine (Decidable.em (a0.toInt = 44)).elim (fun q52_37_1 => ?_) (fun q52_37_1 => ?_)
        · refine g_tableIn (off := 152) hF 189 d_X2_typeOf_37 q52_37_1 (by decide) (by decide) (by decide +kernel) (by decide) ?_
          refine g_aload_n hF d_X2_typeOf_189 rfl 3 rfl ?_
          refine g_getN hF 1 (obC_op hqa2) (by decide) nm_402 (fval_op hqa2) d_X2_typeOf_190 ?_
          refine g_any (fun v53 => ?_)
          refine g_if_ne hF 203 d_X2_typeOf_193 (by decide) rfl (fun c54_193 => ?_) (fun c54_193 => ?_)
          · -- taken at 193
            refine g_iload_n hF d_X2_typeOf_203 rfl 0 rfl ?_
            refine g_if_eq (xv := 1) hF 211 d_X2_typeOf_204 (by decide) (by decide) (fun c_204 => absurd c_204 (by decide)) (fun _ => ?_)
            refine g_iconst hF (v := 0) d_X2_typeOf_207 (by decide) ?_
            refine g_goto hF 213 d_X2_typeOf_208 (by decide) ?_
            exact g_iret hF rfl d_X2_typeOf_213 ⟨rfl, rfl, (0 : Int32), rfl, rfl⟩
          · -- not taken at 193
            refine g_aload_n hF d_X2_typeOf_196 rfl 2 rfl ?_
            refine g_getN hF 1 (obC_op hqa1) (by decide) nm_402 (fval_op hqa1) d_X2_typeOf_197 ?_
            refine g_any (fun v55 => ?_)
            refine g_goto hF 213 d_X2_typeOf_200 (by decide) ?_
            exact g_iret hF rfl d_X2_typeOf_213 ⟨rfl, rfl, v55, rfl, rfl⟩
        refine (Decidable.em (a0.toInt = 45)).elim (fun q56_37_2 => ?_) (fun q56_37_2 => ?_)
        · refine g_tableIn (off := 177) hF 214 d_X2_typeOf_37 q56_37_2 (by decide) (by decide) (by decide +kernel) (by decide) ?_
          refine g_iload_n hF d_X2_typeOf_214 rfl 0 rfl ?_
          refine g_if_eq (xv := 1) hF 229 d_X2_typeOf_215 (by decide) (by decide) (fun c_215 => absurd c_215 (by decide)) (fun _ => ?_)
          refine g_aload_n hF d_X2_typeOf_218 rfl 2 rfl ?_
          refine g_getN hF 1 (obC_op hqa1) (by decide) nm_402 (fval_op hqa1) d_X2_typeOf_219 ?_
          refine g_any (fun v57 => ?_)
          refine g_if_ne hF 229 d_X2_typeOf_222 (by decide) rfl (fun c58_222 => ?_) (fun c58_222 => ?_)
          · -- taken at 222
            refine g_bipush hF (v := (-2)) d_X2_typeOf_229 (by decide) ?_
            exact g_iret hF rfl d_X2_typeOf_231 ⟨rfl, rfl, ((-2) : Int32), rfl, rfl⟩
          · -- not taken at 222
            refine g_iconst hF (v := 0) d_X2_typeOf_225 (by decide) ?_
            refine g_goto hF 231 d_X2_typeOf_226 (by decide) ?_
            exact g_iret hF rfl d_X2_typeOf_231 ⟨rfl, rfl, (0 : Int32), rfl, rfl⟩
        refine (Decidable.em (a0.toInt = 46)).elim (fun q59_37_3 => ?_) (fun q59_37_3 => ?_)
        · refine g_tableIn (off := 177) hF 214 d_X2_typeOf_37 q59_37_3 (by decide) (by decide) (by decide +kernel) (by decide) ?_
          refine g_iload_n hF d_X2_typeOf_214 rfl 0 rfl ?_
          refine g_if_eq (xv := 1) hF 229 d_X2_typeOf_215 (by decide) (by decide) (fun c_215 => absurd c_215 (by decide)) (fun _ => ?_)
          refine g_aload_n hF d_X2_typeOf_218 rfl 2 rfl ?_
          refine g_getN hF 1 (obC_op hqa1) (by decide) nm_402 (fval_op hqa1) d_X2_typeOf_219 ?_
          refine g_any (fun v60 => ?_)
          refine g_if_ne hF 229 d_X2_typeOf_222 (by decide) rfl (fun c61_222 => ?_) (fun c61_222 => ?_)
          · -- taken at 222
            refine g_bipush hF (v := (-2)) d_X2_typeOf_229 (by decide) ?_
            exact g_iret hF rfl d_X2_typeOf_231 ⟨rfl, rfl, ((-2) : Int32), rfl, rfl⟩
          · -- not taken at 222
            refine g_iconst hF (v := 0) d_X2_typeOf_225 (by decide) ?_
            refine g_goto hF 231 d_X2_typeOf_226 (by decide) ?_
            exact g_iret hF rfl d_X2_typeOf_231 ⟨rfl, rfl, (0 : Int32), rfl, rfl⟩
        refine (Decidable.em (a0.toInt = 47)).elim (fun q62_37_4 => ?_) (fun q62_37_4 => ?_)
        · refine g_tableIn (off := 177) hF 214 d_X2_typeOf_37 q62_37_4 (by decide) (by decide) (by decide +kernel) (by decide) ?_
          refine g_iload_n hF d_X2_typeOf_214 rfl 0 rfl ?_
          refine g_if_eq (xv := 1) hF 229 d_X2_typeOf_215 (by decide) (by decide) (fun c_215 => absurd c_215 (by decide)) (fun _ => ?_)
          refine g_aload_n hF d_X2_typeOf_218 rfl 2 rfl ?_
          refine g_getN hF 1 (obC_op hqa1) (by decide) nm_402 (fval_op hqa1) d_X2_typeOf_219 ?_
          refine g_any (fun v63 => ?_)
          refine g_if_ne hF 229 d_X2_typeOf_222 (by decide) rfl (fun c64_222 => ?_) (fun c64_222 => ?_)
          · -- taken at 222
            refine g_bipush hF (v := (-2)) d_X2_typeOf_229 (by decide) ?_
            exact g_iret hF rfl d_X2_typeOf_231 ⟨rfl, rfl, ((-2) : Int32), rfl, rfl⟩
          · -- not taken at 222
            refine g_iconst hF (v := 0) d_X2_typeOf_225 (by decide) ?_
            refine g_goto hF 231 d_X2_typeOf_226 (by decide) ?_
            exact g_iret hF rfl d_X2_typeOf_231 ⟨rfl, rfl, (0 : Int32), rfl, rfl⟩
        refine (Decidable.em (a0.toInt = 48)).elim (fun q65_37_5 => ?_) (fun q65_37_5 => ?_)
        · refine g_tableIn (off := 177) hF 214 d_X2_typeOf_37 q65_37_5 (by decide) (by decide) (by decide +kernel) (by decide) ?_
          refine g_iload_n hF d_X2_typeOf_214 rfl 0 rfl ?_
          refine g_if_eq (xv := 1) hF 229 d_X2_typeOf_215 (by decide) (by decide) (fun c_215 => absurd c_215 (by decide)) (fun _ => ?_)
          refine g_aload_n hF d_X2_typeOf_218 rfl 2 rfl ?_
          refine g_getN hF 1 (obC_op hqa1) (by decide) nm_402 (fval_op hqa1) d_X2_typeOf_219 ?_
          refine g_any (fun v66 => ?_)
          refine g_if_ne hF 229 d_X2_typeOf_222 (by decide) rfl (fun c67_222 => ?_) (fun c67_222 => ?_)
          · -- taken at 222
            refine g_bipush hF (v := (-2)) d_X2_typeOf_229 (by decide) ?_
            exact g_iret hF rfl d_X2_typeOf_231 ⟨rfl, rfl, ((-2) : Int32), rfl, rfl⟩
          · -- not taken at 222
            refine g_iconst hF (v := 0) d_X2_typeOf_225 (by decide) ?_
            refine g_goto hF 231 d_X2_typeOf_226 (by decide) ?_
            exact g_iret hF rfl d_X2_typeOf_231 ⟨rfl, rfl, (0 : Int32), rfl, rfl⟩
        refine (Decidable.em (a0.toInt = 49)).elim (fun q68_37_6 => ?_) (fun q68_37_6 => ?_)
        · refine g_tableIn (off := 177) hF 214 d_X2_typeOf_37 q68_37_6 (by decide) (by decide) (by decide +kernel) (by decide) ?_
          refine g_iload_n hF d_X2_typeOf_214 rfl 0 rfl ?_
          refine g_if_eq (xv := 1) hF 229 d_X2_typeOf_215 (by decide) (by decide) (fun c_215 => absurd c_215 (by decide)) (fun _ => ?_)
          refine g_aload_n hF d_X2_typeOf_218 rfl 2 rfl ?_
          refine g_getN hF 1 (obC_op hqa1) (by decide) nm_402 (fval_op hqa1) d_X2_typeOf_219 ?_
          refine g_any (fun v69 => ?_)
          refine g_if_ne hF 229 d_X2_typeOf_222 (by decide) rfl (fun c70_222 => ?_) (fun c70_222 => ?_)
          · -- taken at 222
            refine g_bipush hF (v := (-2)) d_X2_typeOf_229 (by decide) ?_
            exact g_iret hF rfl d_X2_typeOf_231 ⟨rfl, rfl, ((-2) : Int32), rfl, rfl⟩
          · -- not taken at 222
            refine g_iconst hF (v := 0) d_X2_typeOf_225 (by decide) ?_
            refine g_goto hF 231 d_X2_typeOf_226 (by decide) ?_
            exact g_iret hF rfl d_X2_typeOf_231 ⟨rfl, rfl, (0 : Int32), rfl, rfl⟩
        refine (Decidable.em (a0.toInt = 50)).elim (fun q71_37_7 => ?_) (fun q71_37_7 => ?_)
        · refine g_tableIn (off := 177) hF 214 d_X2_typeOf_37 q71_37_7 (by decide) (by decide) (by decide +kernel) (by decide) ?_
          refine g_iload_n hF d_X2_typeOf_214 rfl 0 rfl ?_
          refine g_if_eq (xv := 1) hF 229 d_X2_typeOf_215 (by decide) (by decide) (fun c_215 => absurd c_215 (by decide)) (fun _ => ?_)
          refine g_aload_n hF d_X2_typeOf_218 rfl 2 rfl ?_
          refine g_getN hF 1 (obC_op hqa1) (by decide) nm_402 (fval_op hqa1) d_X2_typeOf_219 ?_
          refine g_any (fun v72 => ?_)
          refine g_if_ne hF 229 d_X2_typeOf_222 (by decide) rfl (fun c73_222 => ?_) (fun c73_222 => ?_)
          · -- taken at 222
            refine g_bipush hF (v := (-2)) d_X2_typeOf_229 (by decide) ?_
            exact g_iret hF rfl d_X2_typeOf_231 ⟨rfl, rfl, ((-2) : Int32), rfl, rfl⟩
          · -- not taken at 222
            refine g_iconst hF (v := 0) d_X2_typeOf_225 (by decide) ?_
            refine g_goto hF 231 d_X2_typeOf_226 (by decide) ?_
            exact g_iret hF rfl d_X2_typeOf_231 ⟨rfl, rfl, (0 : Int32), rfl, rfl⟩
        refine (Decidable.em (a0.toInt = 51)).elim (fun q74_37_8 => ?_) (fun q74_37_8 => ?_)
        · refine g_tableIn (off := 81) hF 118 d_X2_typeOf_37 q74_37_8 (by decide) (by decide) (by decide +kernel) (by decide) ?_
          refine g_aload_n hF d_X2_typeOf_118 rfl 2 rfl ?_
          refine g_aload_n hF d_X2_typeOf_119 rfl 3 rfl ?_
          refine g_getN hF 1 (obC_op hqa2) (by decide) nm_402 (fval_op hqa2) d_X2_typeOf_120 ?_
          refine g_any (fun v75 => ?_)
          refine g_callVN (As := [.int v75]) (rest := []) hF (c_X6_fits a g r σ0 v75 qa1 hqa1 i0) (Nat.le_of_ble_eq_true rfl) mV_X6_fits nm_1174 (recv_ob (obC_op hqa1)) rfl rfl (Nat.le_of_ble_eq_true rfl) d_X2_typeOf_123 (k_roz (fun r76 hz76 => ?_))
          refine g_if_ne hF 140 d_X2_typeOf_126 (by decide) rfl (fun c77_126 => ?_) (fun c77_126 => ?_)
          · -- taken at 126
            refine g_iconst hF (v := 0) d_X2_typeOf_140 (by decide) ?_
            refine g_goto hF 146 d_X2_typeOf_141 (by decide) ?_
            exact g_iret hF rfl d_X2_typeOf_146 ⟨rfl, rfl, (0 : Int32), rfl, rfl⟩
          · -- not taken at 126
            refine g_aload_n hF d_X2_typeOf_129 rfl 3 rfl ?_
            refine g_aload_n hF d_X2_typeOf_130 rfl 2 rfl ?_
            refine g_getN hF 1 (obC_op hqa1) (by decide) nm_402 (fval_op hqa1) d_X2_typeOf_131 ?_
            refine g_any (fun v78 => ?_)
            refine g_callVN (As := [.int v78]) (rest := []) hF (c_X6_fits a g r σ0 v78 qa2 hqa2 i0) (Nat.le_of_ble_eq_true rfl) mV_X6_fits nm_1174 (recv_ob (obC_op hqa2)) rfl rfl (Nat.le_of_ble_eq_true rfl) d_X2_typeOf_134 (k_roz (fun r79 hz79 => ?_))
            refine g_if_eq hF 144 d_X2_typeOf_137 (by decide) rfl (fun c80_137 => ?_) (fun c80_137 => ?_)
            · -- taken at 137
              refine g_bipush hF (v := (-2)) d_X2_typeOf_144 (by decide) ?_
              exact g_iret hF rfl d_X2_typeOf_146 ⟨rfl, rfl, ((-2) : Int32), rfl, rfl⟩
            · -- not taken at 137
              refine g_iconst hF (v := 0) d_X2_typeOf_140 (by decide) ?_
              refine g_goto hF 146 d_X2_typeOf_141 (by decide) ?_
              exact g_iret hF rfl d_X2_typeOf_146 ⟨rfl, rfl, (0 : Int32), rfl, rfl⟩
        refine (Decidable.em (a0.toInt = 52)).elim (fun q81_37_9 => ?_) (fun q81_37_9 => ?_)
        · refine g_tableIn (off := 81) hF 118 d_X2_typeOf_37 q81_37_9 (by decide) (by decide) (by decide +kernel) (by decide) ?_
          refine g_aload_n hF d_X2_typeOf_118 rfl 2 rfl ?_
          refine g_aload_n hF d_X2_typeOf_119 rfl 3 rfl ?_
          refine g_getN hF 1 (obC_op hqa2) (by decide) nm_402 (fval_op hqa2) d_X2_typeOf_120 ?_
          refine g_any (fun v82 => ?_)
          refine g_callVN (As := [.int v82]) (rest := []) hF (c_X6_fits a g r σ0 v82 qa1 hqa1 i0) (Nat.le_of_ble_eq_true rfl) mV_X6_fits nm_1174 (recv_ob (obC_op hqa1)) rfl rfl (Nat.le_of_ble_eq_true rfl) d_X2_typeOf_123 (k_roz (fun r83 hz83 => ?_))
          refine g_if_ne hF 140 d_X2_typeOf_126 (by decide) rfl (fun c84_126 => ?_) (fun c84_126 => ?_)
          · -- taken at 126
            refine g_iconst hF (v := 0) d_X2_typeOf_140 (by decide) ?_
            refine g_goto hF 146 d_X2_typeOf_141 (by decide) ?_
            exact g_iret hF rfl d_X2_typeOf_146 ⟨rfl, rfl, (0 : Int32), rfl, rfl⟩
          · -- not taken at 126
            refine g_aload_n hF d_X2_typeOf_129 rfl 3 rfl ?_
            refine g_aload_n hF d_X2_typeOf_130 rfl 2 rfl ?_
            refine g_getN hF 1 (obC_op hqa1) (by decide) nm_402 (fval_op hqa1) d_X2_typeOf_131 ?_
            refine g_any (fun v85 => ?_)
            refine g_callVN (As := [.int v85]) (rest := []) hF (c_X6_fits a g r σ0 v85 qa2 hqa2 i0) (Nat.le_of_ble_eq_true rfl) mV_X6_fits nm_1174 (recv_ob (obC_op hqa2)) rfl rfl (Nat.le_of_ble_eq_true rfl) d_X2_typeOf_134 (k_roz (fun r86 hz86 => ?_))
            refine g_if_eq hF 144 d_X2_typeOf_137 (by decide) rfl (fun c87_137 => ?_) (fun c87_137 => ?_)
            · -- taken at 137
              refine g_bipush hF (v := (-2)) d_X2_typeOf_144 (by decide) ?_
              exact g_iret hF rfl d_X2_typeOf_146 ⟨rfl, rfl, ((-2) : Int32), rfl, rfl⟩
            · -- not taken at 137
              refine g_iconst hF (v := 0) d_X2_typeOf_140 (by decide) ?_
              refine g_goto hF 146 d_X2_typeOf_141 (by decide) ?_
              exact g_iret hF rfl d_X2_typeOf_146 ⟨rfl, rfl, (0 : Int32), rfl, rfl⟩
        refine (Decidable.em (a0.toInt = 53)).elim (fun q88_37_10 => ?_) (fun q88_37_10 => ?_)
        · refine g_tableIn (off := 110) hF 147 d_X2_typeOf_37 q88_37_10 (by decide) (by decide) (by decide +kernel) (by decide) ?_
          refine g_iload_n hF d_X2_typeOf_147 rfl 0 rfl ?_
          refine g_if_eq (xv := 1) hF 155 d_X2_typeOf_148 (by decide) (by decide) (fun c_148 => absurd c_148 (by decide)) (fun _ => ?_)
          refine g_iconst hF (v := 0) d_X2_typeOf_151 (by decide) ?_
          refine g_goto hF 157 d_X2_typeOf_152 (by decide) ?_
          exact g_iret hF rfl d_X2_typeOf_157 ⟨rfl, rfl, (0 : Int32), rfl, rfl⟩
        refine (Decidable.em (a0.toInt = 54)).elim (fun q89_37_11 => ?_) (fun q89_37_11 => ?_)
        · refine g_tableIn (off := 110) hF 147 d_X2_typeOf_37 q89_37_11 (by decide) (by decide) (by decide +kernel) (by decide) ?_
          refine g_iload_n hF d_X2_typeOf_147 rfl 0 rfl ?_
          refine g_if_eq (xv := 1) hF 155 d_X2_typeOf_148 (by decide) (by decide) (fun c_148 => absurd c_148 (by decide)) (fun _ => ?_)
          refine g_iconst hF (v := 0) d_X2_typeOf_151 (by decide) ?_
          refine g_goto hF 157 d_X2_typeOf_152 (by decide) ?_
          exact g_iret hF rfl d_X2_typeOf_157 ⟨rfl, rfl, (0 : Int32), rfl, rfl⟩
        refine (Decidable.em (a0.toInt = 55)).elim (fun q90_37_12 => ?_) (fun q90_37_12 => ?_)
        · refine g_tableIn (off := 110) hF 147 d_X2_typeOf_37 q90_37_12 (by decide) (by decide) (by decide +kernel) (by decide) ?_
          refine g_iload_n hF d_X2_typeOf_147 rfl 0 rfl ?_
          refine g_if_eq (xv := 1) hF 155 d_X2_typeOf_148 (by decide) (by decide) (fun c_148 => absurd c_148 (by decide)) (fun _ => ?_)
          refine g_iconst hF (v := 0) d_X2_typeOf_151 (by decide) ?_
          refine g_goto hF 157 d_X2_typeOf_152 (by decide) ?_
          exact g_iret hF rfl d_X2_typeOf_157 ⟨rfl, rfl, (0 : Int32), rfl, rfl⟩
        refine (Decidable.em (a0.toInt = 56)).elim (fun q91_37_13 => ?_) (fun q91_37_13 => ?_)
        · refine g_tableIn (off := 110) hF 147 d_X2_typeOf_37 q91_37_13 (by decide) (by decide) (by decide +kernel) (by decide) ?_
          refine g_iload_n hF d_X2_typeOf_147 rfl 0 rfl ?_
          refine g_if_eq (xv := 1) hF 155 d_X2_typeOf_148 (by decide) (by decide) (fun c_148 => absurd c_148 (by decide)) (fun _ => ?_)
          refine g_iconst hF (v := 0) d_X2_typeOf_151 (by decide) ?_
          refine g_goto hF 157 d_X2_typeOf_152 (by decide) ?_
          exact g_iret hF rfl d_X2_typeOf_157 ⟨rfl, rfl, (0 : Int32), rfl, rfl⟩
        refine (Decidable.em (a0.toInt = 57)).elim (fun q92_37_14 => ?_) (fun q92_37_14 => ?_)
        · refine g_tableIn (off := 79) hF 116 d_X2_typeOf_37 q92_37_14 (by decide) (by decide) (by decide +kernel) (by decide) ?_
          refine g_iconst hF (v := 0) d_X2_typeOf_116 (by decide) ?_
          exact g_iret hF rfl d_X2_typeOf_117 ⟨rfl, rfl, (0 : Int32), rfl, rfl⟩
        refine (Decidable.em (a0.toInt = 58)).elim (fun q93_37_15 => ?_) (fun q93_37_15 => ?_)
        · refine g_tableIn (off := 79) hF 116 d_X2_typeOf_37 q93_37_15 (by decide) (by decide) (by decide +kernel) (by decide) ?_
          refine g_iconst hF (v := 0) d_X2_typeOf_116 (by decide) ?_
          exact g_iret hF rfl d_X2_typeOf_117 ⟨rfl, rfl, (0 : Int32), rfl, rfl⟩
        refine g_tableOut hF 214 d_X2_typeOf_37 rfl (by omega) (by decide) ?_
        refine g_iload_n hF d_X2_typeOf_214 rfl 0 rfl ?_
        refine g_if_eq (xv := 1) hF 229 d_X2_typeOf_215 (by decide) (by decide) (fun c_215 => absurd c_215 (by decide)) (fun _ => ?_)
        refine g_aload_n hF d_X2_typeOf_218 rfl 2 rfl ?_
        refine g_getN hF 1 (obC_op hqa1) (by decide) nm_402 (fval_op hqa1) d_X2_typeOf_219 ?_
        refine g_any (fun v94 => ?_)
        refine g_if_ne hF 229 d_X2_typeOf_222 (by decide) rfl (fun c95_222 => ?_) (fun c95_222 => ?_)
        · -- taken at 222
          refine g_bipush hF (v := (-2)) d_X2_typeOf_229 (by decide) ?_
          exact g_iret hF rfl d_X2_typeOf_231 ⟨rfl, rfl, ((-2) : Int32), rfl, rfl⟩
        · -- not taken at 222
          refine g_iconst hF (v := 0) d_X2_typeOf_225 (by decide) ?_
          refine g_goto hF 231 d_X2_typeOf_226 (by decide) ?_
          exact g_iret hF rfl d_X2_typeOf_231 ⟨rfl, rfl, (0 : Int32), rfl, rfl⟩
    · -- not taken at 13
      refine g_bipush hF (v := (-2)) d_X2_typeOf_16 (by decide) ?_
      exact g_iret hF rfl d_X2_typeOf_18 ⟨rfl, rfl, ((-2) : Int32), rfl, rfl⟩
set_option maxHeartbeats 4000000 in
set_option maxRecDepth 100000 in
theorem c_X0_aim (a : Nat → Nat) (g : Nat → Nat → Int32) (r : Nat → Nat) (σ0 : St) (a1 : Int32) (a2 : Int32) (i0 : Inv σ0) (l : Launch) (D : va_G) (cy : Nat → ClassId) : Ct l D cy SC r (EC a g) y_X0_aim (Cond.code y_X0_aim b_X0_aim 6 none) 1 [.ref (r 4), .int a1, .int a2] σ0 Z0 [] (QV (fun σ9 => (Inv σ9 ∧ Keep [] [24] σ0 σ9))) QF := by
  refine Ct_of (EC_ok a g) (by decide) (Nat.le_of_ble_eq_true rfl) (by decide) (fun X hnn hF => ?_)
  show G SC r X σ0 Z0 [] [(0, .ref (r 4)), (1, .int a1), (2, .int a2)] [] 0
  have b8 : ∀ (N : Nat) (σ : St) (x1 : Int32) (x2 : Int32) (x3 : Int32) (x4 : Int32) , dnm x4 = N → Inv σ → Keep [] [24] σ0 σ → G SC r X σ Z0 [] [(0, .ref (r 4)), (1, .int x1), (2, .int x2), (3, .int x3), (4, .int x4)] [] 8 := by
    intro M8
    induction M8 using Nat.strongRecOn with
    | _ M8 ih8 =>
      intro σ x1 x2 x3 x4 N8 inv kp
      refine g_iload hF d_X0_aim_8 4 rfl ?_
      refine g_if_le hF 49 d_X0_aim_10 (by decide) rfl (fun c1_10 => ?_) (fun c1_10 => ?_)
      · -- taken at 10
        exact g_vret hF rfl d_X0_aim_49 ⟨rfl, rfl, rfl, ⟨inv, kp⟩⟩
      · -- not taken at 10
        refine g_iload_n hF d_X0_aim_13 rfl 3 rfl ?_
        refine g_if_lt hF 49 d_X0_aim_14 (by decide) rfl (fun c2_14 => ?_) (fun c2_14 => ?_)
        · -- taken at 14
          exact g_vret hF rfl d_X0_aim_49 ⟨rfl, rfl, rfl, ⟨inv, kp⟩⟩
        · -- not taken at 14
          refine g_aload_n hF d_X0_aim_17 rfl 0 rfl ?_
          refine g_get (v := .ref (r 24)) hF 0 obC_4 (by decide) m_149 rfl d_X0_aim_18 ?_
          refine g_iload_n hF d_X0_aim_21 rfl 3 rfl ?_
          refine g_iconst hF (v := 1) d_X0_aim_22 (by decide) ?_
          refine g_iadd hF d_X0_aim_23 ?_
          refine g_callSN (As := [.ref (r 24), .int (x3 + 1)]) (rest := []) hF (c_at a g r σ arC_24 (by decide) (x3 + 1)) (Nat.le_of_ble_eq_true rfl) mS_X12_at nm_1213 rfl rfl (Nat.le_of_ble_eq_true rfl) d_X0_aim_24 (k_rop (fun r3 hr3 => ?_))
          refine g_istore hF [(5, .int r3), (0, .ref (r 4)), (1, .int x1), (2, .int x2), (3, .int x3), (4, .int x4)] d_X0_aim_27 hnn (by decide) rfl ?_
          refine g_aload_n hF d_X0_aim_29 rfl 1 rfl ?_
          refine g_get (v := .ref (r 24)) hF 0 obC_4 (by decide) m_149 rfl d_X0_aim_30 ?_
          refine g_iload_n hF d_X0_aim_33 rfl 4 rfl ?_
          refine g_iconst hF (v := 1) d_X0_aim_34 (by decide) ?_
          refine g_iadd hF d_X0_aim_35 ?_
          refine g_iload_n hF d_X0_aim_36 rfl 3 rfl ?_
          refine g_callSN (As := [.ref (r 24), .int (x3 + 1), .int x2]) (rest := []) hF (c_set a g r σ arC_24 (by decide) (x3 + 1) x2) (Nat.le_of_ble_eq_true rfl) mS_X12_set nm_1214 rfl rfl (Nat.le_of_ble_eq_true rfl) d_X0_aim_37 (k_v (fun σ4 ⟨g4, eσ4, hg4⟩ => ?_))
          subst eσ4
          have kp : Keep [] [24] σ0 (upF σ 24 g4) := keep_F kp (by decide)
          refine g_iload hF d_X0_aim_40 0 rfl ?_
          refine g_istore_n hF [(3, .int r3), (5, .int r3), (0, .ref (r 4)), (1, .int x1), (2, .int x2), (4, .int x4)] d_X0_aim_42 rfl hnn (by decide) rfl ?_
          refine g_iinc hF (x4 + (-1)) [(4, .int (x4 + (-1))), (3, .int r3), (5, .int r3), (0, .ref (r 4)), (1, .int x1), (2, .int x2)] d_X0_aim_43 5 rfl rfl hnn (by decide) rfl ?_
          refine g_goto hF 8 d_X0_aim_46 (by decide) ?_
          have j5 : Inv (upF σ 24 g4) := ⟨inv.1, inv.2.1, inv.2.2.1, inv.2.2.2.1, inv.2.2.2.2.1, inv.2.2.2.2.2.1, inv.2.2.2.2.2.2.1, inv.2.2.2.2.2.2.2.1, inv.2.2.2.2.2.2.2.2.1, inv.2.2.2.2.2.2.2.2.2.1, inv.2.2.2.2.2.2.2.2.2.2.1, inv.2.2.2.2.2.2.2.2.2.2.2.1, inv.2.2.2.2.2.2.2.2.2.2.2.2.1, inv.2.2.2.2.2.2.2.2.2.2.2.2.2.1, inv.2.2.2.2.2.2.2.2.2.2.2.2.2.2.1, inv.2.2.2.2.2.2.2.2.2.2.2.2.2.2.2.1, inv.2.2.2.2.2.2.2.2.2.2.2.2.2.2.2.2.1, inv.2.2.2.2.2.2.2.2.2.2.2.2.2.2.2.2.2.1, inv.2.2.2.2.2.2.2.2.2.2.2.2.2.2.2.2.2.2.1, inv.2.2.2.2.2.2.2.2.2.2.2.2.2.2.2.2.2.2.2⟩
          exact g_sub (L' := [(0, .ref (r 4)), (1, .int x1), (2, .int x2), (3, .int r3), (4, .int (x4 + (-1)))]) [3, 4, 5, 1, 0] rfl (ih8 _ (N8 ▸ dnm_lt c1_10 (by decide)) (upF σ 24 g4) x1 x2 r3 (x4 + (-1)) rfl j5 kp)
  have kp : Keep [] [24] σ0 σ0 := keep_rf
  refine g_iload_n hF d_X0_aim_0 rfl 1 rfl ?_
  refine g_istore_n hF [(3, .int a1), (0, .ref (r 4)), (1, .int a1), (2, .int a2)] d_X0_aim_1 rfl hnn (by decide) rfl ?_
  refine g_aload_n hF d_X0_aim_2 rfl 1 rfl ?_
  refine g_get (v := .int (σ0 4 1)) hF 1 obC_4 (by decide) m_152 rfl d_X0_aim_3 ?_
  refine g_istore hF [(4, .int (σ0 4 1)), (3, .int a1), (0, .ref (r 4)), (1, .int a1), (2, .int a2)] d_X0_aim_6 hnn (by decide) rfl ?_
  exact g_sub (L' := [(0, .ref (r 4)), (1, .int a1), (2, .int a2), (3, .int a1), (4, .int (σ0 4 1))]) [2, 3, 4, 1, 0] rfl (b8 _ σ0 a1 a2 a1 (σ0 4 1) rfl i0 kp)
set_option maxHeartbeats 4000000 in
set_option maxRecDepth 100000 in
theorem c_X2_operate (a : Nat → Nat) (g : Nat → Nat → Int32) (r : Nat → Nat) (σ0 : St) (a1 : Int32) (a2 : Int32) (a3 : Int32) (i0 : Inv σ0) (z_a2 : a2 = 0 ∨ a2 = 1) (l : Launch) (D : va_G) (cy : Nat → ClassId) : Ct l D cy SC r (EC a g) y_X2_operate (Cond.code y_X2_operate b_X2_operate 5 none) 1 [.ref (r 7), .int a1, .int a2, .int a3] σ0 Z0 [] (QV (fun σ9 => (Inv σ9 ∧ Keep [(4, 1)] [24] σ0 σ9))) QF := by
  refine Ct_of (EC_ok a g) (by decide) (Nat.le_of_ble_eq_true rfl) (by decide) (fun X hnn hF => ?_)
  show G SC r X σ0 Z0 [] [(0, .ref (r 7)), (1, .int a1), (2, .int a2), (3, .int a3)] [] 0
  have kp : Keep [(4, 1)] [24] σ0 σ0 := keep_rf
  refine g_iload_n hF d_X2_operate_0 rfl 2 rfl ?_
  refine g_if_eq hF 20 d_X2_operate_1 (by decide) rfl (fun c1_1 => ?_) (fun c1_1 => ?_)
  · -- taken at 1
    refine g_iconst hF (v := 0) d_X2_operate_20 (by decide) ?_
    refine g_istore hF [(4, .int 0), (0, .ref (r 7)), (1, .int a1), (2, .int a2), (3, .int a3)] d_X2_operate_21 hnn (by decide) rfl ?_
    refine g_aload_n hF d_X2_operate_23 rfl 1 rfl ?_
    refine g_get (v := .ref (r 4)) hF 4 obC_7 (by decide) m_461 rfl d_X2_operate_24 ?_
    refine g_iload hF d_X2_operate_27 0 rfl ?_
    refine g_if_eq (xv := 0) hF 38 d_X2_operate_29 (by decide) (by decide) (fun _ => ?_) (fun c_29 => absurd c_29 (by decide))
    refine g_iload_n hF d_X2_operate_38 rfl 2 rfl ?_
    refine g_iload_n hF d_X2_operate_39 rfl 4 rfl ?_
    refine g_iconst hF (v := 0) d_X2_operate_40 (by decide) ?_
    refine g_iconst hF (v := 0) d_X2_operate_41 (by decide) ?_
    refine g_callVN (As := [.int a1, .int a3, .int 0, .int 0]) (rest := []) hF (c_X0_emit a g r σ0 a1 a3 (0 : Int32) (0 : Int32) i0) (Nat.le_of_ble_eq_true rfl) mV_X0_emit nm_1071 (recv_ob obC_4) rfl rfl (Nat.le_of_ble_eq_true rfl) d_X2_operate_42 (k_i (fun r2 σ2 ⟨iσ2, ik2⟩ => ?_))
    have kp : Keep [(4, 1)] [24] σ0 σ2 := keep_c kp ik2 (by decide) (by decide)
    refine g_pop hF d_X2_operate_45 rfl ?_
    exact g_vret hF rfl d_X2_operate_46 ⟨rfl, rfl, rfl, ⟨iσ2, kp⟩⟩
  · -- not taken at 1
    refine g_iload_n hF d_X2_operate_4 rfl 1 rfl ?_
    refine g_bipush hF (v := 53) d_X2_operate_5 (by decide) ?_
    refine g_icmp_lt (yv := 53) hF 20 d_X2_operate_7 (by decide) rfl (by decide) (fun c3_7 => ?_) (fun c3_7 => ?_)
    · -- taken at 7
      refine g_iconst hF (v := 0) d_X2_operate_20 (by decide) ?_
      refine g_istore hF [(4, .int 0), (0, .ref (r 7)), (1, .int a1), (2, .int a2), (3, .int a3)] d_X2_operate_21 hnn (by decide) rfl ?_
      refine g_aload_n hF d_X2_operate_23 rfl 1 rfl ?_
      refine g_get (v := .ref (r 4)) hF 4 obC_7 (by decide) m_461 rfl d_X2_operate_24 ?_
      refine g_iload hF d_X2_operate_27 0 rfl ?_
      refine g_if_eq (xv := 0) hF 38 d_X2_operate_29 (by decide) (by decide) (fun _ => ?_) (fun c_29 => absurd c_29 (by decide))
      refine g_iload_n hF d_X2_operate_38 rfl 2 rfl ?_
      refine g_iload_n hF d_X2_operate_39 rfl 4 rfl ?_
      refine g_iconst hF (v := 0) d_X2_operate_40 (by decide) ?_
      refine g_iconst hF (v := 0) d_X2_operate_41 (by decide) ?_
      refine g_callVN (As := [.int a1, .int a3, .int 0, .int 0]) (rest := []) hF (c_X0_emit a g r σ0 a1 a3 (0 : Int32) (0 : Int32) i0) (Nat.le_of_ble_eq_true rfl) mV_X0_emit nm_1071 (recv_ob obC_4) rfl rfl (Nat.le_of_ble_eq_true rfl) d_X2_operate_42 (k_i (fun r4 σ4 ⟨iσ4, ik4⟩ => ?_))
      have kp : Keep [(4, 1)] [24] σ0 σ4 := keep_c kp ik4 (by decide) (by decide)
      refine g_pop hF d_X2_operate_45 rfl ?_
      exact g_vret hF rfl d_X2_operate_46 ⟨rfl, rfl, rfl, ⟨iσ4, kp⟩⟩
    · -- not taken at 7
      refine g_iload_n hF d_X2_operate_10 rfl 1 rfl ?_
      refine g_bipush hF (v := 56) d_X2_operate_11 (by decide) ?_
      refine g_icmp_gt (yv := 56) hF 20 d_X2_operate_13 (by decide) rfl (by decide) (fun c5_13 => ?_) (fun c5_13 => ?_)
      · -- taken at 13
        refine g_iconst hF (v := 0) d_X2_operate_20 (by decide) ?_
        refine g_istore hF [(4, .int 0), (0, .ref (r 7)), (1, .int a1), (2, .int a2), (3, .int a3)] d_X2_operate_21 hnn (by decide) rfl ?_
        refine g_aload_n hF d_X2_operate_23 rfl 1 rfl ?_
        refine g_get (v := .ref (r 4)) hF 4 obC_7 (by decide) m_461 rfl d_X2_operate_24 ?_
        refine g_iload hF d_X2_operate_27 0 rfl ?_
        refine g_if_eq (xv := 0) hF 38 d_X2_operate_29 (by decide) (by decide) (fun _ => ?_) (fun c_29 => absurd c_29 (by decide))
        refine g_iload_n hF d_X2_operate_38 rfl 2 rfl ?_
        refine g_iload_n hF d_X2_operate_39 rfl 4 rfl ?_
        refine g_iconst hF (v := 0) d_X2_operate_40 (by decide) ?_
        refine g_iconst hF (v := 0) d_X2_operate_41 (by decide) ?_
        refine g_callVN (As := [.int a1, .int a3, .int 0, .int 0]) (rest := []) hF (c_X0_emit a g r σ0 a1 a3 (0 : Int32) (0 : Int32) i0) (Nat.le_of_ble_eq_true rfl) mV_X0_emit nm_1071 (recv_ob obC_4) rfl rfl (Nat.le_of_ble_eq_true rfl) d_X2_operate_42 (k_i (fun r6 σ6 ⟨iσ6, ik6⟩ => ?_))
        have kp : Keep [(4, 1)] [24] σ0 σ6 := keep_c kp ik6 (by decide) (by decide)
        refine g_pop hF d_X2_operate_45 rfl ?_
        exact g_vret hF rfl d_X2_operate_46 ⟨rfl, rfl, rfl, ⟨iσ6, kp⟩⟩
      · -- not taken at 13
        refine g_iconst hF (v := 1) d_X2_operate_16 (by decide) ?_
        refine g_goto hF 21 d_X2_operate_17 (by decide) ?_
        refine g_istore hF [(4, .int 1), (0, .ref (r 7)), (1, .int a1), (2, .int a2), (3, .int a3)] d_X2_operate_21 hnn (by decide) rfl ?_
        refine g_aload_n hF d_X2_operate_23 rfl 1 rfl ?_
        refine g_get (v := .ref (r 4)) hF 4 obC_7 (by decide) m_461 rfl d_X2_operate_24 ?_
        refine g_iload hF d_X2_operate_27 0 rfl ?_
        refine g_if_eq (xv := 1) hF 38 d_X2_operate_29 (by decide) (by decide) (fun c_29 => absurd c_29 (by decide)) (fun _ => ?_)
        refine g_iload_n hF d_X2_operate_32 rfl 2 rfl ?_
        refine g_iconst hF (v := 4) d_X2_operate_33 (by decide) ?_
        refine g_iadd hF d_X2_operate_34 ?_
        refine g_goto hF 39 d_X2_operate_35 (by decide) ?_
        refine g_iload_n hF d_X2_operate_39 rfl 4 rfl ?_
        refine g_iconst hF (v := 0) d_X2_operate_40 (by decide) ?_
        refine g_iconst hF (v := 0) d_X2_operate_41 (by decide) ?_
        refine g_callVN (As := [.int (a1 + 4), .int a3, .int 0, .int 0]) (rest := []) hF (c_X0_emit a g r σ0 (a1 + 4) a3 (0 : Int32) (0 : Int32) i0) (Nat.le_of_ble_eq_true rfl) mV_X0_emit nm_1071 (recv_ob obC_4) rfl rfl (Nat.le_of_ble_eq_true rfl) d_X2_operate_42 (k_i (fun r7 σ7 ⟨iσ7, ik7⟩ => ?_))
        have kp : Keep [(4, 1)] [24] σ0 σ7 := keep_c kp ik7 (by decide) (by decide)
        refine g_pop hF d_X2_operate_45 rfl ?_
        exact g_vret hF rfl d_X2_operate_46 ⟨rfl, rfl, rfl, ⟨iσ7, kp⟩⟩
set_option maxHeartbeats 4000000 in
set_option maxRecDepth 100000 in
theorem c_X6_isConstant (a : Nat → Nat) (g : Nat → Nat → Int32) (r : Nat → Nat) (σ0 : St) (qa0 : Nat) (hqa0 : isOp qa0) (i0 : Inv σ0) (l : Launch) (D : va_G) (cy : Nat → ClassId) : Ct l D cy SC r (EC a g) y_X6_isConstant (Cond.code y_X6_isConstant b_X6_isConstant 1 (some .boolean)) 0 [.ref (r qa0)] σ0 Z0 [] (QI (fun v9 σ9 => (v9 = 0 ∨ v9 = 1) ∧ σ9 = σ0)) QF := by
  refine Ct_of (EC_ok a g) (by decide) (Nat.le_of_ble_eq_true rfl) (by decide) (fun X hnn hF => ?_)
  show G SC r X σ0 Z0 [] [(0, .ref (r qa0))] [] 0
  refine g_aload_n hF d_X6_isConstant_0 rfl 0 rfl ?_
  refine g_get hF 6 (obC_op hqa0) (by decide) m_411 (fval_op hqa0) d_X6_isConstant_1 ?_
  refine g_any (fun v1 => ?_)
  refine g_iconst hF (v := 1) d_X6_isConstant_4 (by decide) ?_
  refine g_icmp_ne (yv := 1) hF 12 d_X6_isConstant_5 (by decide) rfl (by decide) (fun c2_5 => ?_) (fun c2_5 => ?_)
  · -- taken at 5
    refine g_iconst hF (v := 0) d_X6_isConstant_12 (by decide) ?_
    exact g_zret hF rfl (k_nz (Or.inl rfl)) d_X6_isConstant_13 ⟨rfl, rfl, (0 : Int32), rfl, (Or.inl rfl), rfl⟩
  · -- not taken at 5
    refine g_iconst hF (v := 1) d_X6_isConstant_8 (by decide) ?_
    refine g_goto hF 13 d_X6_isConstant_9 (by decide) ?_
    exact g_zret hF rfl (k_nz (Or.inr rfl)) d_X6_isConstant_13 ⟨rfl, rfl, (1 : Int32), rfl, (Or.inr rfl), rfl⟩
set_option maxHeartbeats 4000000 in
set_option maxRecDepth 100000 in
theorem c_X5_compared (a : Nat → Nat) (g : Nat → Nat → Int32) (r : Nat → Nat) (σ0 : St) (a0 : Int32) (a1 : Int32) (a2 : Int32) (i0 : Inv σ0) (l : Launch) (D : va_G) (cy : Nat → ClassId) : Ct l D cy SC r (EC a g) y_X5_compared (Cond.code y_X5_compared b_X5_compared 4 (some .boolean)) 0 [.int a0, .int a1, .int a2] σ0 Z0 [] (QI (fun v9 σ9 => (v9 = 0 ∨ v9 = 1) ∧ σ9 = σ0)) QF := by
  refine Ct_of (EC_ok a g) (by decide) (Nat.le_of_ble_eq_true rfl) (by decide) (fun X hnn hF => ?_)
  show G SC r X σ0 Z0 [] [(0, .int a0), (1, .int a1), (2, .int a2)] [] 0
  refine g_ldc (v := (-2147483648)) hF m_1232 d_X5_compared_0 ?_
  refine g_istore_n hF [(3, .int (-2147483648)), (0, .int a0), (1, .int a1), (2, .int a2)] d_X5_compared_2 rfl hnn (by decide) rfl ?_
  refine g_iload_n hF d_X5_compared_3 rfl 1 rfl ?_
  refine (Decidable.em (a0.toInt = 51)).elim (fun q1_4_0 => ?_) (fun q1_4_0 => ?_)
  · refine g_tableIn (off := 56) hF 60 d_X5_compared_4 q1_4_0 (by decide) (by decide) (by decide +kernel) (by decide) ?_
    refine g_iload_n hF d_X5_compared_60 rfl 2 rfl ?_
    refine g_iload_n hF d_X5_compared_61 rfl 3 rfl ?_
    refine g_icmp_ne hF 69 d_X5_compared_62 (by decide) rfl rfl (fun c2_62 => ?_) (fun c2_62 => ?_)
    · -- taken at 62
      refine g_iconst hF (v := 0) d_X5_compared_69 (by decide) ?_
      exact g_zret hF rfl (k_nz (Or.inl rfl)) d_X5_compared_70 ⟨rfl, rfl, (0 : Int32), rfl, (Or.inl rfl), rfl⟩
    · -- not taken at 62
      refine g_iconst hF (v := 1) d_X5_compared_65 (by decide) ?_
      refine g_goto hF 70 d_X5_compared_66 (by decide) ?_
      exact g_zret hF rfl (k_nz (Or.inr rfl)) d_X5_compared_70 ⟨rfl, rfl, (1 : Int32), rfl, (Or.inr rfl), rfl⟩
  refine (Decidable.em (a0.toInt = 52)).elim (fun q3_4_1 => ?_) (fun q3_4_1 => ?_)
  · refine g_tableIn (off := 67) hF 71 d_X5_compared_4 q3_4_1 (by decide) (by decide) (by decide +kernel) (by decide) ?_
    refine g_iload_n hF d_X5_compared_71 rfl 2 rfl ?_
    refine g_iload_n hF d_X5_compared_72 rfl 3 rfl ?_
    refine g_icmp_eq hF 80 d_X5_compared_73 (by decide) rfl rfl (fun c4_73 => ?_) (fun c4_73 => ?_)
    · -- taken at 73
      refine g_iconst hF (v := 0) d_X5_compared_80 (by decide) ?_
      exact g_zret hF rfl (k_nz (Or.inl rfl)) d_X5_compared_81 ⟨rfl, rfl, (0 : Int32), rfl, (Or.inl rfl), rfl⟩
    · -- not taken at 73
      refine g_iconst hF (v := 1) d_X5_compared_76 (by decide) ?_
      refine g_goto hF 81 d_X5_compared_77 (by decide) ?_
      exact g_zret hF rfl (k_nz (Or.inr rfl)) d_X5_compared_81 ⟨rfl, rfl, (1 : Int32), rfl, (Or.inr rfl), rfl⟩
  refine (Decidable.em (a0.toInt = 53)).elim (fun q5_4_2 => ?_) (fun q5_4_2 => ?_)
  · refine g_tableIn (off := 78) hF 82 d_X5_compared_4 q5_4_2 (by decide) (by decide) (by decide +kernel) (by decide) ?_
    refine g_iload_n hF d_X5_compared_82 rfl 2 rfl ?_
    refine g_iload_n hF d_X5_compared_83 rfl 3 rfl ?_
    refine g_icmp_ge hF 91 d_X5_compared_84 (by decide) rfl rfl (fun c6_84 => ?_) (fun c6_84 => ?_)
    · -- taken at 84
      refine g_iconst hF (v := 0) d_X5_compared_91 (by decide) ?_
      exact g_zret hF rfl (k_nz (Or.inl rfl)) d_X5_compared_92 ⟨rfl, rfl, (0 : Int32), rfl, (Or.inl rfl), rfl⟩
    · -- not taken at 84
      refine g_iconst hF (v := 1) d_X5_compared_87 (by decide) ?_
      refine g_goto hF 92 d_X5_compared_88 (by decide) ?_
      exact g_zret hF rfl (k_nz (Or.inr rfl)) d_X5_compared_92 ⟨rfl, rfl, (1 : Int32), rfl, (Or.inr rfl), rfl⟩
  refine (Decidable.em (a0.toInt = 54)).elim (fun q7_4_3 => ?_) (fun q7_4_3 => ?_)
  · refine g_tableIn (off := 89) hF 93 d_X5_compared_4 q7_4_3 (by decide) (by decide) (by decide +kernel) (by decide) ?_
    refine g_iload_n hF d_X5_compared_93 rfl 2 rfl ?_
    refine g_iload_n hF d_X5_compared_94 rfl 3 rfl ?_
    refine g_icmp_le hF 102 d_X5_compared_95 (by decide) rfl rfl (fun c8_95 => ?_) (fun c8_95 => ?_)
    · -- taken at 95
      refine g_iconst hF (v := 0) d_X5_compared_102 (by decide) ?_
      exact g_zret hF rfl (k_nz (Or.inl rfl)) d_X5_compared_103 ⟨rfl, rfl, (0 : Int32), rfl, (Or.inl rfl), rfl⟩
    · -- not taken at 95
      refine g_iconst hF (v := 1) d_X5_compared_98 (by decide) ?_
      refine g_goto hF 103 d_X5_compared_99 (by decide) ?_
      exact g_zret hF rfl (k_nz (Or.inr rfl)) d_X5_compared_103 ⟨rfl, rfl, (1 : Int32), rfl, (Or.inr rfl), rfl⟩
  refine (Decidable.em (a0.toInt = 55)).elim (fun q9_4_4 => ?_) (fun q9_4_4 => ?_)
  · refine g_tableIn (off := 100) hF 104 d_X5_compared_4 q9_4_4 (by decide) (by decide) (by decide +kernel) (by decide) ?_
    refine g_iload_n hF d_X5_compared_104 rfl 2 rfl ?_
    refine g_iload_n hF d_X5_compared_105 rfl 3 rfl ?_
    refine g_icmp_gt hF 113 d_X5_compared_106 (by decide) rfl rfl (fun c10_106 => ?_) (fun c10_106 => ?_)
    · -- taken at 106
      refine g_iconst hF (v := 0) d_X5_compared_113 (by decide) ?_
      exact g_zret hF rfl (k_nz (Or.inl rfl)) d_X5_compared_114 ⟨rfl, rfl, (0 : Int32), rfl, (Or.inl rfl), rfl⟩
    · -- not taken at 106
      refine g_iconst hF (v := 1) d_X5_compared_109 (by decide) ?_
      refine g_goto hF 114 d_X5_compared_110 (by decide) ?_
      exact g_zret hF rfl (k_nz (Or.inr rfl)) d_X5_compared_114 ⟨rfl, rfl, (1 : Int32), rfl, (Or.inr rfl), rfl⟩
  refine (Decidable.em (a0.toInt = 56)).elim (fun q11_4_5 => ?_) (fun q11_4_5 => ?_)
  · refine g_tableIn (off := 111) hF 115 d_X5_compared_4 q11_4_5 (by decide) (by decide) (by decide +kernel) (by decide) ?_
    refine g_iload_n hF d_X5_compared_115 rfl 2 rfl ?_
    refine g_iload_n hF d_X5_compared_116 rfl 3 rfl ?_
    refine g_icmp_lt hF 124 d_X5_compared_117 (by decide) rfl rfl (fun c12_117 => ?_) (fun c12_117 => ?_)
    · -- taken at 117
      refine g_iconst hF (v := 0) d_X5_compared_124 (by decide) ?_
      exact g_zret hF rfl (k_nz (Or.inl rfl)) d_X5_compared_125 ⟨rfl, rfl, (0 : Int32), rfl, (Or.inl rfl), rfl⟩
    · -- not taken at 117
      refine g_iconst hF (v := 1) d_X5_compared_120 (by decide) ?_
      refine g_goto hF 125 d_X5_compared_121 (by decide) ?_
      exact g_zret hF rfl (k_nz (Or.inr rfl)) d_X5_compared_125 ⟨rfl, rfl, (1 : Int32), rfl, (Or.inr rfl), rfl⟩
  refine (Decidable.em (a0.toInt = 57)).elim (fun q13_4_6 => ?_) (fun q13_4_6 => ?_)
  · refine g_tableIn (off := 122) hF 126 d_X5_compared_4 q13_4_6 (by decide) (by decide) (by decide +kernel) (by decide) ?_
    refine g_iload_n hF d_X5_compared_126 rfl 2 rfl ?_
    refine g_iload_n hF d_X5_compared_127 rfl 0 rfl ?_
    refine g_iadd hF d_X5_compared_128 ?_
    refine g_iload_n hF d_X5_compared_129 rfl 3 rfl ?_
    refine g_iload_n hF d_X5_compared_130 rfl 0 rfl ?_
    refine g_iadd hF d_X5_compared_131 ?_
    refine g_icmp_ge hF 139 d_X5_compared_132 (by decide) rfl rfl (fun c14_132 => ?_) (fun c14_132 => ?_)
    · -- taken at 132
      refine g_iconst hF (v := 0) d_X5_compared_139 (by decide) ?_
      exact g_zret hF rfl (k_nz (Or.inl rfl)) d_X5_compared_140 ⟨rfl, rfl, (0 : Int32), rfl, (Or.inl rfl), rfl⟩
    · -- not taken at 132
      refine g_iconst hF (v := 1) d_X5_compared_135 (by decide) ?_
      refine g_goto hF 140 d_X5_compared_136 (by decide) ?_
      exact g_zret hF rfl (k_nz (Or.inr rfl)) d_X5_compared_140 ⟨rfl, rfl, (1 : Int32), rfl, (Or.inr rfl), rfl⟩
  refine (Decidable.em (a0.toInt = 58)).elim (fun q15_4_7 => ?_) (fun q15_4_7 => ?_)
  · refine g_tableIn (off := 137) hF 141 d_X5_compared_4 q15_4_7 (by decide) (by decide) (by decide +kernel) (by decide) ?_
    refine g_iload_n hF d_X5_compared_141 rfl 2 rfl ?_
    refine g_iload_n hF d_X5_compared_142 rfl 0 rfl ?_
    refine g_iadd hF d_X5_compared_143 ?_
    refine g_iload_n hF d_X5_compared_144 rfl 3 rfl ?_
    refine g_iload_n hF d_X5_compared_145 rfl 0 rfl ?_
    refine g_iadd hF d_X5_compared_146 ?_
    refine g_icmp_le hF 154 d_X5_compared_147 (by decide) rfl rfl (fun c16_147 => ?_) (fun c16_147 => ?_)
    · -- taken at 147
      refine g_iconst hF (v := 0) d_X5_compared_154 (by decide) ?_
      exact g_zret hF rfl (k_nz (Or.inl rfl)) d_X5_compared_155 ⟨rfl, rfl, (0 : Int32), rfl, (Or.inl rfl), rfl⟩
    · -- not taken at 147
      refine g_iconst hF (v := 1) d_X5_compared_150 (by decide) ?_
      refine g_goto hF 155 d_X5_compared_151 (by decide) ?_
      exact g_zret hF rfl (k_nz (Or.inr rfl)) d_X5_compared_155 ⟨rfl, rfl, (1 : Int32), rfl, (Or.inr rfl), rfl⟩
  refine (Decidable.em (a0.toInt = 59)).elim (fun q17_4_8 => ?_) (fun q17_4_8 => ?_)
  · refine g_tableIn (off := 152) hF 156 d_X5_compared_4 q17_4_8 (by decide) (by decide) (by decide +kernel) (by decide) ?_
    refine g_iload_n hF d_X5_compared_156 rfl 2 rfl ?_
    refine g_iload_n hF d_X5_compared_157 rfl 0 rfl ?_
    refine g_iadd hF d_X5_compared_158 ?_
    refine g_iload_n hF d_X5_compared_159 rfl 3 rfl ?_
    refine g_iload_n hF d_X5_compared_160 rfl 0 rfl ?_
    refine g_iadd hF d_X5_compared_161 ?_
    refine g_icmp_gt hF 169 d_X5_compared_162 (by decide) rfl rfl (fun c18_162 => ?_) (fun c18_162 => ?_)
    · -- taken at 162
      refine g_iconst hF (v := 0) d_X5_compared_169 (by decide) ?_
      exact g_zret hF rfl (k_nz (Or.inl rfl)) d_X5_compared_170 ⟨rfl, rfl, (0 : Int32), rfl, (Or.inl rfl), rfl⟩
    · -- not taken at 162
      refine g_iconst hF (v := 1) d_X5_compared_165 (by decide) ?_
      refine g_goto hF 170 d_X5_compared_166 (by decide) ?_
      exact g_zret hF rfl (k_nz (Or.inr rfl)) d_X5_compared_170 ⟨rfl, rfl, (1 : Int32), rfl, (Or.inr rfl), rfl⟩
  refine (Decidable.em (a0.toInt = 60)).elim (fun q19_4_9 => ?_) (fun q19_4_9 => ?_)
  · refine g_tableIn (off := 167) hF 171 d_X5_compared_4 q19_4_9 (by decide) (by decide) (by decide +kernel) (by decide) ?_
    refine g_iload_n hF d_X5_compared_171 rfl 2 rfl ?_
    refine g_iload_n hF d_X5_compared_172 rfl 0 rfl ?_
    refine g_iadd hF d_X5_compared_173 ?_
    refine g_iload_n hF d_X5_compared_174 rfl 3 rfl ?_
    refine g_iload_n hF d_X5_compared_175 rfl 0 rfl ?_
    refine g_iadd hF d_X5_compared_176 ?_
    refine g_icmp_lt hF 184 d_X5_compared_177 (by decide) rfl rfl (fun c20_177 => ?_) (fun c20_177 => ?_)
    · -- taken at 177
      refine g_iconst hF (v := 0) d_X5_compared_184 (by decide) ?_
      exact g_zret hF rfl (k_nz (Or.inl rfl)) d_X5_compared_185 ⟨rfl, rfl, (0 : Int32), rfl, (Or.inl rfl), rfl⟩
    · -- not taken at 177
      refine g_iconst hF (v := 1) d_X5_compared_180 (by decide) ?_
      refine g_goto hF 185 d_X5_compared_181 (by decide) ?_
      exact g_zret hF rfl (k_nz (Or.inr rfl)) d_X5_compared_185 ⟨rfl, rfl, (1 : Int32), rfl, (Or.inr rfl), rfl⟩
  refine g_tableOut hF 186 d_X5_compared_4 rfl (by omega) (by decide) ?_
  refine g_iconst hF (v := 0) d_X5_compared_186 (by decide) ?_
  exact g_zret hF rfl (k_nz (Or.inl rfl)) d_X5_compared_187 ⟨rfl, rfl, (0 : Int32), rfl, (Or.inl rfl), rfl⟩
set_option maxHeartbeats 4000000 in
set_option maxRecDepth 100000 in
theorem c_X2_pointed (a : Nat → Nat) (g : Nat → Nat → Int32) (r : Nat → Nat) (σ0 : St) (a2 : Int32) (qa1 : Nat) (hqa1 : isOp qa1) (i0 : Inv σ0) (l : Launch) (D : va_G) (cy : Nat → ClassId) : Ct l D cy SC r (EC a g) y_X2_pointed (Cond.code y_X2_pointed b_X2_pointed 3 none) 2 [.ref (r 7), .ref (r qa1), .int a2] σ0 Z0 [] (QV (fun σ9 => (Inv σ9 ∧ Keep [(6, 3), (6, 4)] [] σ0 σ9))) QF := by
  refine Ct_of (EC_ok a g) (by decide) (Nat.le_of_ble_eq_true rfl) (by decide) (fun X hnn hF => ?_)
  show G SC r X σ0 Z0 [] [(0, .ref (r 7)), (1, .ref (r qa1)), (2, .int a2)] [] 0
  have kp : Keep [(6, 3), (6, 4)] [] σ0 σ0 := keep_rf
  refine g_aload_n hF d_X2_pointed_0 rfl 1 rfl ?_
  refine g_getN hF 1 (obC_op hqa1) (by decide) nm_402 (fval_op hqa1) d_X2_pointed_1 ?_
  refine g_any (fun v1 => ?_)
  refine g_iconst hF (v := 1) d_X2_pointed_4 (by decide) ?_
  refine g_icmp_ge (yv := 1) hF 13 d_X2_pointed_5 (by decide) rfl (by decide) (fun c2_5 => ?_) (fun c2_5 => ?_)
  · -- taken at 5
    refine g_aload_n hF d_X2_pointed_13 rfl 1 rfl ?_
    refine g_aload_n hF d_X2_pointed_14 rfl 1 rfl ?_
    refine g_getN hF 1 (obC_op hqa1) (by decide) nm_402 (fval_op hqa1) d_X2_pointed_15 ?_
    refine g_any (fun v3 => ?_)
    refine g_iconst hF (v := 1) d_X2_pointed_18 (by decide) ?_
    refine g_isub hF d_X2_pointed_19 ?_
    refine g_iconst hF (v := 0) d_X2_pointed_20 (by decide) ?_
    refine g_callVN (As := [.int (v3 - 1), .int 0]) (rest := []) hF (c_X6_become a g r σ0 (v3 - 1) (0 : Int32) qa1 hqa1 i0) (Nat.le_of_ble_eq_true rfl) mV_X6_become nm_1100 (recv_ob (obC_op hqa1)) rfl rfl (Nat.le_of_ble_eq_true rfl) d_X2_pointed_21 (k_v (fun σ4 ⟨iσ4, ik4⟩ => ?_))
    have kp : Keep [(6, 3), (6, 4)] [] σ0 σ4 := keep_c kp ik4 (by decide) (by decide)
    refine g_aload_n hF d_X2_pointed_24 rfl 1 rfl ?_
    refine g_iconst hF (v := 3) d_X2_pointed_25 (by decide) ?_
    refine g_putN hF 0 (obC_op hqa1) (by decide) nm_399 rfl rfl (rf_op hqa1) d_X2_pointed_26 ?_
    obtain ⟨σ5, eσ5⟩ : ∃ z, z = upC σ4 qa1 0 (3 : Int32) := ⟨_, rfl⟩
    rw [← eσ5]
    have ik5 : Keep [] [] σ4 σ5 := by rw [eσ5]; exact keep_op hqa1
    have kp : Keep [(6, 3), (6, 4)] [] σ0 σ5 := keep_c kp ik5 (by decide) (by decide)
    have iσ5 : Inv σ5 := inv_keep ik5 iσ4
    refine g_aload_n hF d_X2_pointed_29 rfl 1 rfl ?_
    refine g_aload_n hF d_X2_pointed_30 rfl 0 rfl ?_
    refine g_iload_n hF d_X2_pointed_31 rfl 2 rfl ?_
    refine g_callV (As := [.int a2]) (rest := [.ref (r qa1)]) hF (c_X2_lineOf a g r σ5 a2 iσ5) (Nat.le_of_ble_eq_true rfl) mV_X2_lineOf m_1182 (recv_ob obC_7) rfl rfl (Nat.le_of_ble_eq_true rfl) d_X2_pointed_32 (k_ro (fun r6 => ?_)) (fun _ _ _ h => h.elim)
    refine g_putN hF 5 (obC_op hqa1) (by decide) nm_410 rfl rfl (rf_op hqa1) d_X2_pointed_35 ?_
    obtain ⟨σ7, eσ7⟩ : ∃ z, z = upC σ5 qa1 5 r6 := ⟨_, rfl⟩
    rw [← eσ7]
    have ik7 : Keep [] [] σ5 σ7 := by rw [eσ7]; exact keep_op hqa1
    have kp : Keep [(6, 3), (6, 4)] [] σ0 σ7 := keep_c kp ik7 (by decide) (by decide)
    have iσ7 : Inv σ7 := inv_keep ik7 iσ5
    exact g_vret hF rfl d_X2_pointed_38 ⟨rfl, rfl, rfl, ⟨iσ7, kp⟩⟩
  · -- not taken at 5
    refine g_aload_n hF d_X2_pointed_8 rfl 0 rfl ?_
    refine g_iload_n hF d_X2_pointed_9 rfl 2 rfl ?_
    refine g_callV (As := [.int a2]) (rest := []) hF (c_X2_refuse a g r σ0 a2 i0) (Nat.le_of_ble_eq_true rfl) mV_X2_refuse m_1126 (recv_ob obC_7) rfl rfl (Nat.le_of_ble_eq_true rfl) d_X2_pointed_10 (k_v (fun σ8 ⟨iσ8, ik8⟩ => ?_)) (fun _ _ _ h => h.elim)
    have kp : Keep [(6, 3), (6, 4)] [] σ0 σ8 := keep_c kp ik8 (by decide) (by decide)
    refine g_aload_n hF d_X2_pointed_13 rfl 1 rfl ?_
    refine g_aload_n hF d_X2_pointed_14 rfl 1 rfl ?_
    refine g_getN hF 1 (obC_op hqa1) (by decide) nm_402 (fval_op hqa1) d_X2_pointed_15 ?_
    refine g_any (fun v9 => ?_)
    refine g_iconst hF (v := 1) d_X2_pointed_18 (by decide) ?_
    refine g_isub hF d_X2_pointed_19 ?_
    refine g_iconst hF (v := 0) d_X2_pointed_20 (by decide) ?_
    refine g_callVN (As := [.int (v9 - 1), .int 0]) (rest := []) hF (c_X6_become a g r σ8 (v9 - 1) (0 : Int32) qa1 hqa1 iσ8) (Nat.le_of_ble_eq_true rfl) mV_X6_become nm_1100 (recv_ob (obC_op hqa1)) rfl rfl (Nat.le_of_ble_eq_true rfl) d_X2_pointed_21 (k_v (fun σ10 ⟨iσ10, ik10⟩ => ?_))
    have kp : Keep [(6, 3), (6, 4)] [] σ0 σ10 := keep_c kp ik10 (by decide) (by decide)
    refine g_aload_n hF d_X2_pointed_24 rfl 1 rfl ?_
    refine g_iconst hF (v := 3) d_X2_pointed_25 (by decide) ?_
    refine g_putN hF 0 (obC_op hqa1) (by decide) nm_399 rfl rfl (rf_op hqa1) d_X2_pointed_26 ?_
    obtain ⟨σ11, eσ11⟩ : ∃ z, z = upC σ10 qa1 0 (3 : Int32) := ⟨_, rfl⟩
    rw [← eσ11]
    have ik11 : Keep [] [] σ10 σ11 := by rw [eσ11]; exact keep_op hqa1
    have kp : Keep [(6, 3), (6, 4)] [] σ0 σ11 := keep_c kp ik11 (by decide) (by decide)
    have iσ11 : Inv σ11 := inv_keep ik11 iσ10
    refine g_aload_n hF d_X2_pointed_29 rfl 1 rfl ?_
    refine g_aload_n hF d_X2_pointed_30 rfl 0 rfl ?_
    refine g_iload_n hF d_X2_pointed_31 rfl 2 rfl ?_
    refine g_callV (As := [.int a2]) (rest := [.ref (r qa1)]) hF (c_X2_lineOf a g r σ11 a2 iσ11) (Nat.le_of_ble_eq_true rfl) mV_X2_lineOf m_1182 (recv_ob obC_7) rfl rfl (Nat.le_of_ble_eq_true rfl) d_X2_pointed_32 (k_ro (fun r12 => ?_)) (fun _ _ _ h => h.elim)
    refine g_putN hF 5 (obC_op hqa1) (by decide) nm_410 rfl rfl (rf_op hqa1) d_X2_pointed_35 ?_
    obtain ⟨σ13, eσ13⟩ : ∃ z, z = upC σ11 qa1 5 r12 := ⟨_, rfl⟩
    rw [← eσ13]
    have ik13 : Keep [] [] σ11 σ13 := by rw [eσ13]; exact keep_op hqa1
    have kp : Keep [(6, 3), (6, 4)] [] σ0 σ13 := keep_c kp ik13 (by decide) (by decide)
    have iσ13 : Inv σ13 := inv_keep ik13 iσ11
    exact g_vret hF rfl d_X2_pointed_38 ⟨rfl, rfl, rfl, ⟨iσ13, kp⟩⟩
set_option maxHeartbeats 4000000 in
set_option maxRecDepth 100000 in
theorem c_X2_step (a : Nat → Nat) (g : Nat → Nat → Int32) (r : Nat → Nat) (σ0 : St) (a2 : Int32) (a3 : Int32) (qa1 : Nat) (hqa1 : isOp qa1) (i0 : Inv σ0) (z_a3 : a3 = 0 ∨ a3 = 1) (l : Launch) (D : va_G) (cy : Nat → ClassId) : Ct l D cy SC r (EC a g) y_X2_step (Cond.code y_X2_step b_X2_step 6 none) 2 [.ref (r 7), .ref (r qa1), .int a2, .int a3] σ0 Z0 [] (QV (fun σ9 => (Inv σ9 ∧ Keep [(4, 1), (6, 3), (6, 4)] [24] σ0 σ9))) QF := by
  refine Ct_of (EC_ok a g) (by decide) (Nat.le_of_ble_eq_true rfl) (by decide) (fun X hnn hF => ?_)
  show G SC r X σ0 Z0 [] [(0, .ref (r 7)), (1, .ref (r qa1)), (2, .int a2), (3, .int a3)] [] 0
  have b102 : ∀ (σ : St) (qx1 : Nat) (x2 : Int32) (x3 : Int32) (x4 : Int32) (x5 : Int32) , Inv σ → Keep [(4, 1), (6, 3), (6, 4)] [24] σ0 σ → x3 = 0 ∨ x3 = 1 → isOp qx1 → G SC r X σ Z0 [] [(0, .ref (r 7)), (1, .ref (r qx1)), (2, .int x2), (3, .int x3), (4, .int x4), (5, .int x5)] [] 102 := by
    intro σ qx1 x2 x3 x4 x5 inv kp z_x3 hqx1
    refine g_aload_n hF d_X2_step_102 rfl 1 rfl ?_
    refine g_aload_n hF d_X2_step_103 rfl 1 rfl ?_
    refine g_getN hF 1 (obC_op hqx1) (by decide) nm_402 (fval_op hqx1) d_X2_step_104 ?_
    refine g_any (fun v1 => ?_)
    refine g_iconst hF (v := 0) d_X2_step_107 (by decide) ?_
    refine g_callVN (As := [.int v1, .int 0]) (rest := []) hF (c_X6_become a g r σ v1 (0 : Int32) qx1 hqx1 inv) (Nat.le_of_ble_eq_true rfl) mV_X6_become nm_1100 (recv_ob (obC_op hqx1)) rfl rfl (Nat.le_of_ble_eq_true rfl) d_X2_step_108 (k_v (fun σ2 ⟨iσ2, ik2⟩ => ?_))
    have kp : Keep [(4, 1), (6, 3), (6, 4)] [24] σ0 σ2 := keep_c kp ik2 (by decide) (by decide)
    refine g_aload_n hF d_X2_step_111 rfl 0 rfl ?_
    refine g_aload_n hF d_X2_step_112 rfl 1 rfl ?_
    refine g_iconst hF (v := 1) d_X2_step_113 (by decide) ?_
    refine g_aload_n hF d_X2_step_114 rfl 1 rfl ?_
    refine g_getN hF 2 (obC_op hqx1) (by decide) nm_404 (fval_op hqx1) d_X2_step_115 ?_
    refine g_any (fun v3 => ?_)
    refine g_iadd hF d_X2_step_118 ?_
    refine g_iload_n hF d_X2_step_119 rfl 2 rfl ?_
    refine g_callV (As := [.ref (r qx1), .int (1 + v3), .int x2]) (rest := []) hF (c_X2_raise a g r σ2 (1 + v3) x2 qx1 hqx1 iσ2) (Nat.le_of_ble_eq_true rfl) mV_X2_raise m_1186 (recv_ob obC_7) rfl rfl (Nat.le_of_ble_eq_true rfl) d_X2_step_120 (k_v (fun σ4 ⟨iσ4, ik4⟩ => ?_)) (fun _ _ _ h => h.elim)
    have kp : Keep [(4, 1), (6, 3), (6, 4)] [24] σ0 σ4 := keep_c kp ik4 (by decide) (by decide)
    exact g_vret hF rfl d_X2_step_123 ⟨rfl, rfl, rfl, ⟨iσ4, kp⟩⟩
  have b90 : ∀ (σ : St) (qx1 : Nat) (x2 : Int32) (x3 : Int32) (x4 : Int32) (x5 : Int32) (y1 : Int32) , Inv σ → Keep [(4, 1), (6, 3), (6, 4)] [24] σ0 σ → x3 = 0 ∨ x3 = 1 → isOp qx1 → G SC r X σ Z0 [] [(0, .ref (r 7)), (1, .ref (r qx1)), (2, .int x2), (3, .int x3), (4, .int x4), (5, .int x5)] [.int y1, .ref (r 4)] 90 := by
    intro σ qx1 x2 x3 x4 x5 y1 inv kp z_x3 hqx1
    refine g_aload_n hF d_X2_step_90 rfl 1 rfl ?_
    refine g_getN hF 4 (obC_op hqx1) (by decide) nm_408 (fval_op hqx1) d_X2_step_91 ?_
    refine g_any (fun v5 => ?_)
    refine g_iload hF d_X2_step_94 4 rfl ?_
    refine g_iload hF d_X2_step_96 5 rfl ?_
    refine g_callVN (As := [.int y1, .int v5, .int x4, .int x5]) (rest := []) hF (c_X0_emit a g r σ y1 v5 x4 x5 inv) (Nat.le_of_ble_eq_true rfl) mV_X0_emit nm_1071 (recv_ob obC_4) rfl rfl (Nat.le_of_ble_eq_true rfl) d_X2_step_98 (k_i (fun r6 σ6 ⟨iσ6, ik6⟩ => ?_))
    have kp : Keep [(4, 1), (6, 3), (6, 4)] [24] σ0 σ6 := keep_c kp ik6 (by decide) (by decide)
    refine g_pop hF d_X2_step_101 rfl ?_
    exact b102 σ6 qx1 x2 x3 x4 x5 iσ6 kp z_x3 hqx1
  have b39 : ∀ (σ : St) (qx1 : Nat) (x2 : Int32) (x3 : Int32) (x4 : Int32) (y0 : Int32) , Inv σ → Keep [(4, 1), (6, 3), (6, 4)] [24] σ0 σ → x3 = 0 ∨ x3 = 1 → isOp qx1 → G SC r X σ Z0 [] [(0, .ref (r 7)), (1, .ref (r qx1)), (2, .int x2), (3, .int x3), (4, .int x4)] [.int y0] 39 := by
    intro σ qx1 x2 x3 x4 y0 inv kp z_x3 hqx1
    refine g_istore hF [(5, .int y0), (0, .ref (r 7)), (1, .ref (r qx1)), (2, .int x2), (3, .int x3), (4, .int x4)] d_X2_step_39 hnn (by decide) rfl ?_
    refine g_aload_n hF d_X2_step_41 rfl 2 rfl ?_
    refine g_getN hF 0 (obC_op hqx1) (by decide) nm_399 (fval_op hqx1) d_X2_step_42 ?_
    refine g_any (fun v7 => ?_)
    refine g_iconst hF (v := 3) d_X2_step_45 (by decide) ?_
    refine g_icmp_ne (yv := 3) hF 71 d_X2_step_46 (by decide) rfl (by decide) (fun c8_46 => ?_) (fun c8_46 => ?_)
    · -- taken at 46
      refine g_aload_n hF d_X2_step_71 rfl 1 rfl ?_
      refine g_get (v := .ref (r 4)) hF 4 obC_7 (by decide) m_461 rfl d_X2_step_72 ?_
      refine g_aload_n hF d_X2_step_75 rfl 2 rfl ?_
      refine g_getN hF 0 (obC_op hqx1) (by decide) nm_399 (fval_op hqx1) d_X2_step_76 ?_
      refine g_any (fun v9 => ?_)
      refine g_iconst hF (v := 1) d_X2_step_79 (by decide) ?_
      refine g_icmp_ne (yv := 1) hF 88 d_X2_step_80 (by decide) rfl (by decide) (fun c10_80 => ?_) (fun c10_80 => ?_)
      · -- taken at 80
        refine g_bipush hF (v := 7) d_X2_step_88 (by decide) ?_
        exact g_sub (L' := [(0, .ref (r 7)), (1, .ref (r qx1)), (2, .int x2), (3, .int x3), (4, .int x4), (5, .int y0)]) [1, 2, 3, 4, 5, 0] rfl (b90 σ qx1 x2 x3 x4 y0 (7 : Int32) inv kp z_x3 hqx1)
      · -- not taken at 80
        refine g_bipush hF (v := 10) d_X2_step_83 (by decide) ?_
        refine g_goto hF 90 d_X2_step_85 (by decide) ?_
        exact g_sub (L' := [(0, .ref (r 7)), (1, .ref (r qx1)), (2, .int x2), (3, .int x3), (4, .int x4), (5, .int y0)]) [1, 2, 3, 4, 5, 0] rfl (b90 σ qx1 x2 x3 x4 y0 (10 : Int32) inv kp z_x3 hqx1)
    · -- not taken at 46
      refine g_aload_n hF d_X2_step_49 rfl 1 rfl ?_
      refine g_get (v := .ref (r 4)) hF 4 obC_7 (by decide) m_461 rfl d_X2_step_50 ?_
      refine g_bipush hF (v := 20) d_X2_step_53 (by decide) ?_
      refine g_aload_n hF d_X2_step_55 rfl 1 rfl ?_
      refine g_iload_n hF d_X2_step_56 rfl 3 rfl ?_
      refine g_callV (As := [.int x2]) (rest := [.int 20, .ref (r 4)]) hF (c_X2_lineOf a g r σ x2 inv) (Nat.le_of_ble_eq_true rfl) mV_X2_lineOf m_1182 (recv_ob obC_7) rfl rfl (Nat.le_of_ble_eq_true rfl) d_X2_step_57 (k_ro (fun r11 => ?_)) (fun _ _ _ h => h.elim)
      refine g_iload hF d_X2_step_60 5 rfl ?_
      refine g_iload hF d_X2_step_62 0 rfl ?_
      refine g_callVN (As := [.int 20, .int r11, .int x4, .int y0]) (rest := []) hF (c_X0_emit a g r σ (20 : Int32) r11 x4 y0 inv) (Nat.le_of_ble_eq_true rfl) mV_X0_emit nm_1071 (recv_ob obC_4) rfl rfl (Nat.le_of_ble_eq_true rfl) d_X2_step_64 (k_i (fun r12 σ12 ⟨iσ12, ik12⟩ => ?_))
      have kp : Keep [(4, 1), (6, 3), (6, 4)] [24] σ0 σ12 := keep_c kp ik12 (by decide) (by decide)
      refine g_pop hF d_X2_step_67 rfl ?_
      refine g_goto hF 102 d_X2_step_68 (by decide) ?_
      exact g_sub (L' := [(0, .ref (r 7)), (1, .ref (r qx1)), (2, .int x2), (3, .int x3), (4, .int x4), (5, .int y0)]) [1, 2, 3, 4, 5, 0] rfl (b102 σ12 qx1 x2 x3 x4 y0 iσ12 kp z_x3 hqx1)
  have b27 : ∀ (σ : St) (qx1 : Nat) (x2 : Int32) (x3 : Int32) (y0 : Int32) , Inv σ → Keep [(4, 1), (6, 3), (6, 4)] [24] σ0 σ → x3 = 0 ∨ x3 = 1 → isOp qx1 → G SC r X σ Z0 [] [(0, .ref (r 7)), (1, .ref (r qx1)), (2, .int x2), (3, .int x3)] [.int y0] 27 := by
    intro σ qx1 x2 x3 y0 inv kp z_x3 hqx1
    refine g_istore hF [(4, .int y0), (0, .ref (r 7)), (1, .ref (r qx1)), (2, .int x2), (3, .int x3)] d_X2_step_27 hnn (by decide) rfl ?_
    refine g_iload_n hF d_X2_step_29 rfl 4 rfl ?_
    refine g_if_eq hF 38 d_X2_step_30 (by decide) rfl (fun c13_30 => ?_) (fun c13_30 => ?_)
    · -- taken at 30
      refine g_iconst hF (v := 0) d_X2_step_38 (by decide) ?_
      exact g_sub (L' := [(0, .ref (r 7)), (1, .ref (r qx1)), (2, .int x2), (3, .int x3), (4, .int y0)]) [1, 2, 3, 4, 0] rfl (b39 σ qx1 x2 x3 y0 (0 : Int32) inv kp z_x3 hqx1)
    · -- not taken at 30
      refine g_iload hF d_X2_step_33 0 rfl ?_
      refine g_goto hF 39 d_X2_step_35 (by decide) ?_
      exact g_sub (L' := [(0, .ref (r 7)), (1, .ref (r qx1)), (2, .int x2), (3, .int x3), (4, .int y0)]) [1, 2, 3, 4, 0] rfl (b39 σ qx1 x2 x3 y0 y0 inv kp z_x3 hqx1)
  have b12 : ∀ (σ : St) (qx1 : Nat) (x2 : Int32) (x3 : Int32) , Inv σ → Keep [(4, 1), (6, 3), (6, 4)] [24] σ0 σ → x3 = 0 ∨ x3 = 1 → isOp qx1 → G SC r X σ Z0 [] [(0, .ref (r 7)), (1, .ref (r qx1)), (2, .int x2), (3, .int x3)] [] 12 := by
    intro σ qx1 x2 x3 inv kp z_x3 hqx1
    refine g_aload_n hF d_X2_step_12 rfl 0 rfl ?_
    refine g_iload_n hF d_X2_step_13 rfl 2 rfl ?_
    refine g_callV (As := [.int x2]) (rest := []) hF (c_X2_kindOf a g r σ x2 inv) (Nat.le_of_ble_eq_true rfl) mV_X2_kindOf m_1194 (recv_ob obC_7) rfl rfl (Nat.le_of_ble_eq_true rfl) d_X2_step_14 (k_ro (fun r14 => ?_)) (fun _ _ _ h => h.elim)
    refine g_bipush hF (v := 61) d_X2_step_17 (by decide) ?_
    refine g_icmp_ne (yv := 61) hF 26 d_X2_step_19 (by decide) rfl (by decide) (fun c15_19 => ?_) (fun c15_19 => ?_)
    · -- taken at 19
      refine g_iconst hF (v := (-1)) d_X2_step_26 (by decide) ?_
      exact b27 σ qx1 x2 x3 ((-1) : Int32) inv kp z_x3 hqx1
    · -- not taken at 19
      refine g_iconst hF (v := 1) d_X2_step_22 (by decide) ?_
      refine g_goto hF 27 d_X2_step_23 (by decide) ?_
      exact b27 σ qx1 x2 x3 (1 : Int32) inv kp z_x3 hqx1
  have kp : Keep [(4, 1), (6, 3), (6, 4)] [24] σ0 σ0 := keep_rf
  refine g_aload_n hF d_X2_step_0 rfl 1 rfl ?_
  refine g_callVN (As := []) (rest := []) hF (c_X6_isPlace a g r σ0 qa1 hqa1 i0) (Nat.le_of_ble_eq_true rfl) mV_X6_isPlace nm_1168 (recv_ob (obC_op hqa1)) rfl rfl (Nat.le_of_ble_eq_true rfl) d_X2_step_1 (k_roz (fun r16 hz16 => ?_))
  refine g_if_ne hF 12 d_X2_step_4 (by decide) rfl (fun c17_4 => ?_) (fun c17_4 => ?_)
  · -- taken at 4
    exact b12 σ0 qa1 a2 a3 i0 kp z_a3 hqa1
  · -- not taken at 4
    refine g_aload_n hF d_X2_step_7 rfl 0 rfl ?_
    refine g_iload_n hF d_X2_step_8 rfl 2 rfl ?_
    refine g_callV (As := [.int a2]) (rest := []) hF (c_X2_refuse a g r σ0 a2 i0) (Nat.le_of_ble_eq_true rfl) mV_X2_refuse m_1126 (recv_ob obC_7) rfl rfl (Nat.le_of_ble_eq_true rfl) d_X2_step_9 (k_v (fun σ18 ⟨iσ18, ik18⟩ => ?_)) (fun _ _ _ h => h.elim)
    have kp : Keep [(4, 1), (6, 3), (6, 4)] [24] σ0 σ18 := keep_c kp ik18 (by decide) (by decide)
    exact b12 σ18 qa1 a2 a3 iσ18 kp z_a3 hqa1
set_option maxHeartbeats 4000000 in
set_option maxRecDepth 100000 in
theorem c_X5_inverted (a : Nat → Nat) (g : Nat → Nat → Int32) (r : Nat → Nat) (σ0 : St) (a0 : Int32) (a1 : Int32) (i0 : Inv σ0) (l : Launch) (D : va_G) (cy : Nat → ClassId) : Ct l D cy SC r (EC a g) y_X5_inverted (Cond.code y_X5_inverted b_X5_inverted 2 (some .int)) 0 [.int a0, .int a1] σ0 Z0 [] (QI (fun _ σ9 => σ9 = σ0)) QF := by
  refine Ct_of (EC_ok a g) (by decide) (Nat.le_of_ble_eq_true rfl) (by decide) (fun X hnn hF => ?_)
  show G SC r X σ0 Z0 [] [(0, .int a0), (1, .int a1)] [] 0
  refine g_iload_n hF d_X5_inverted_0 rfl 0 rfl ?_
  refine (Decidable.em (a0.toInt = 22)).elim (fun q1_1_0 => ?_) (fun q1_1_0 => ?_)
  · refine g_tableIn (off := 27) hF 28 d_X5_inverted_1 q1_1_0 (by decide) (by decide) (by decide +kernel) (by decide) ?_
    refine g_iload_n hF d_X5_inverted_28 rfl 1 rfl ?_
    refine g_ineg hF d_X5_inverted_29 ?_
    refine g_any (fun v2 => ?_)
    exact g_iret hF rfl d_X5_inverted_30 ⟨rfl, rfl, v2, rfl, rfl⟩
  refine (Decidable.em (a0.toInt = 23)).elim (fun q3_1_1 => ?_) (fun q3_1_1 => ?_)
  · refine g_tableIn (off := 30) hF 31 d_X5_inverted_1 q3_1_1 (by decide) (by decide) (by decide +kernel) (by decide) ?_
    refine g_iload_n hF d_X5_inverted_31 rfl 1 rfl ?_
    refine g_iconst hF (v := (-1)) d_X5_inverted_32 (by decide) ?_
    refine g_ixor hF d_X5_inverted_33 ?_
    refine g_any (fun v4 => ?_)
    exact g_iret hF rfl d_X5_inverted_34 ⟨rfl, rfl, v4, rfl, rfl⟩
  refine (Decidable.em (a0.toInt = 24)).elim (fun q5_1_2 => ?_) (fun q5_1_2 => ?_)
  · refine g_tableIn (off := 34) hF 35 d_X5_inverted_1 q5_1_2 (by decide) (by decide) (by decide +kernel) (by decide) ?_
    refine g_iload_n hF d_X5_inverted_35 rfl 1 rfl ?_
    refine g_if_ne hF 43 d_X5_inverted_36 (by decide) rfl (fun c6_36 => ?_) (fun c6_36 => ?_)
    · -- taken at 36
      refine g_iconst hF (v := 0) d_X5_inverted_43 (by decide) ?_
      exact g_iret hF rfl d_X5_inverted_44 ⟨rfl, rfl, (0 : Int32), rfl, rfl⟩
    · -- not taken at 36
      refine g_iconst hF (v := 1) d_X5_inverted_39 (by decide) ?_
      refine g_goto hF 44 d_X5_inverted_40 (by decide) ?_
      exact g_iret hF rfl d_X5_inverted_44 ⟨rfl, rfl, (1 : Int32), rfl, rfl⟩
  refine g_tableOut hF 45 d_X5_inverted_1 rfl (by omega) (by decide) ?_
  refine g_iload_n hF d_X5_inverted_45 rfl 1 rfl ?_
  refine g_if_eq hF 53 d_X5_inverted_46 (by decide) rfl (fun c7_46 => ?_) (fun c7_46 => ?_)
  · -- taken at 46
    refine g_iconst hF (v := 0) d_X5_inverted_53 (by decide) ?_
    exact g_iret hF rfl d_X5_inverted_54 ⟨rfl, rfl, (0 : Int32), rfl, rfl⟩
  · -- not taken at 46
    refine g_iconst hF (v := 1) d_X5_inverted_49 (by decide) ?_
    refine g_goto hF 54 d_X5_inverted_50 (by decide) ?_
    exact g_iret hF rfl d_X5_inverted_54 ⟨rfl, rfl, (1 : Int32), rfl, rfl⟩
set_option maxHeartbeats 4000000 in
set_option maxRecDepth 100000 in
theorem c_X11_open (a : Nat → Nat) (g : Nat → Nat → Int32) (r : Nat → Nat) (σ0 : St) (hpre : -100000 ≤ (σ0 6 17).toInt ∧ (σ0 6 17).toInt ≤ 100000) (i0 : Inv σ0) (l : Launch) (D : va_G) (cy : Nat → ClassId) : Ct l D cy SC r (EC a g) y_X11_open (Cond.code y_X11_open b_X11_open 1 none) 1 [.ref (r 6)] σ0 Z0 [] (QV (fun σ9 => (((σ9 6 17).toInt = (σ0 6 17).toInt + 1) ∧ Inv σ9 ∧ Keep [(6, 17)] [45] σ0 σ9))) QF := by
  refine Ct_of (EC_ok a g) (by decide) (Nat.le_of_ble_eq_true rfl) (by decide) (fun X hnn hF => ?_)
  show G SC r X σ0 Z0 [] [(0, .ref (r 6))] [] 0
  have kp : Keep [(6, 17)] [45] σ0 σ0 := keep_rf
  refine g_aload_n hF d_X11_open_0 rfl 0 rfl ?_
  refine g_get (v := .ref (r 45)) hF 18 obC_6 (by decide) m_345 rfl d_X11_open_1 ?_
  refine g_aload_n hF d_X11_open_4 rfl 0 rfl ?_
  refine g_get (v := .int (σ0 6 17)) hF 17 obC_6 (by decide) m_344 rfl d_X11_open_5 ?_
  refine g_aload_n hF d_X11_open_8 rfl 0 rfl ?_
  refine g_get (v := .int (σ0 6 15)) hF 15 obC_6 (by decide) m_342 rfl d_X11_open_9 ?_
  refine g_callSN (As := [.ref (r 45), .int (σ0 6 17), .int (σ0 6 15)]) (rest := []) hF (c_set a g r σ0 arC_45 (by decide) (σ0 6 17) (σ0 6 15)) (Nat.le_of_ble_eq_true rfl) mS_X12_set nm_1151 rfl rfl (Nat.le_of_ble_eq_true rfl) d_X11_open_12 (k_v (fun σ1 ⟨g1, eσ1, hg1⟩ => ?_))
  subst eσ1
  have kp : Keep [(6, 17)] [45] σ0 (upF σ0 45 g1) := keep_F kp (by decide)
  have p2 : AllIn 0 100000 ((upF σ0 45 g1) 45) := (acr_set i0.2.2.2.2.2.2.2.2.2.2.2.2.2.2.2.2.1 hg1.1 (by show 0 ≤ (σ0 6 15).toInt ∧ (σ0 6 15).toInt ≤ 100000; have e0 := s_rng (σ0 6 15); have e1 := i0.2.2.2.2.2.2.1; have e2 := i0.2.2.2.2.2.2.2.2.2.2.2.2.2.2.2.2.2.2.1.1; omega))
  refine g_aload_n hF d_X11_open_15 rfl 0 rfl ?_
  refine g_dup hF d_X11_open_16 rfl ?_
  refine g_get (v := .int (σ0 6 17)) hF 17 obC_6 (by decide) m_344 rfl d_X11_open_17 ?_
  refine g_iconst hF (v := 1) d_X11_open_20 (by decide) ?_
  refine g_iadd hF d_X11_open_21 ?_
  refine g_put (v := ((σ0 6 17) + 1)) hF 17 obC_6 (by decide) m_344 rfl rfl rfl d_X11_open_22 ?_
  have kp : Keep [(6, 17)] [45] σ0 (upC (upF σ0 45 g1) 6 17 ((σ0 6 17) + 1)) := keep_f kp (by decide)
  have j3 : Inv (upC (upF σ0 45 g1) 6 17 ((σ0 6 17) + 1)) := ⟨i0.1, i0.2.1, i0.2.2.1, i0.2.2.2.1, i0.2.2.2.2.1, i0.2.2.2.2.2.1, i0.2.2.2.2.2.2.1, i0.2.2.2.2.2.2.2.1, i0.2.2.2.2.2.2.2.2.1, i0.2.2.2.2.2.2.2.2.2.1, i0.2.2.2.2.2.2.2.2.2.2.1, i0.2.2.2.2.2.2.2.2.2.2.2.1, i0.2.2.2.2.2.2.2.2.2.2.2.2.1, i0.2.2.2.2.2.2.2.2.2.2.2.2.2.1, i0.2.2.2.2.2.2.2.2.2.2.2.2.2.2.1, i0.2.2.2.2.2.2.2.2.2.2.2.2.2.2.2.1, p2, i0.2.2.2.2.2.2.2.2.2.2.2.2.2.2.2.2.2.1, ⟨(by show (σ0 6 15).toInt ≤ (σ0 6 10).toInt; have hb1 : (σ0 6 15).toInt ≤ (σ0 6 10).toInt := i0.2.2.2.2.2.2.2.2.2.2.2.2.2.2.2.2.2.2.1.1; have e0 := s_rng (σ0 6 10); have e1 := i0.2.2.2.2.2.1; have e2 := s_rng (σ0 6 15); have e3 := i0.2.2.2.2.2.2.1; have e4 := i0.2.2.2.2.2.2.2.2.2.2.2.2.2.2.2.2.2.2.1.1; have e5 := s_rng (σ0 6 17); have e6 : (1 : Int32).toInt = 1 := (by decide); obtain ⟨k7, e7⟩ := s_add (σ0 6 17) (1 : Int32); have e7a := s_rng ((σ0 6 17) + 1); omega), (fun z hz1 hz2 => by have hz2 : (z : Int) < ((σ0 6 17) + 1).toInt := hz2; have hb1 : (σ0 6 15).toInt ≤ (σ0 6 10).toInt := i0.2.2.2.2.2.2.2.2.2.2.2.2.2.2.2.2.2.2.1.1; have hb2 : (z : Int) < (σ0 6 17).toInt → (σ0 45 z).toInt ≤ (σ0 6 10).toInt := i0.2.2.2.2.2.2.2.2.2.2.2.2.2.2.2.2.2.2.1.2 z hz1; have e0 := s_rng (σ0 6 10); have e1 := i0.2.2.2.2.2.1; have e2 := s_rng (σ0 6 15); have e3 := i0.2.2.2.2.2.2.1; have e4 := i0.2.2.2.2.2.2.2.2.2.2.2.2.2.2.2.2.2.2.1.1; have e5 := s_rng (σ0 6 17); have e6 : (1 : Int32).toInt = 1 := (by decide); obtain ⟨k7, e7⟩ := s_add (σ0 6 17) (1 : Int32); have e7a := s_rng ((σ0 6 17) + 1); show (g1 z).toInt ≤ (σ0 6 10).toInt; rcases si_open hg1 z hz1 with ⟨q, q2⟩ | q; all_goals (first | (have q : g1 z = σ0 45 z := q; rw [q]; omega) | (rw [q]; omega)))⟩, i0.2.2.2.2.2.2.2.2.2.2.2.2.2.2.2.2.2.2.2⟩
  exact g_vret hF rfl d_X11_open_25 ⟨rfl, rfl, rfl, ⟨(by show ((σ0 6 17) + 1).toInt = (σ0 6 17).toInt + 1; have e0 := s_rng (σ0 6 17); have e1 : (1 : Int32).toInt = 1 := (by decide); obtain ⟨k2, e2⟩ := s_add (σ0 6 17) (1 : Int32); have e2a := s_rng ((σ0 6 17) + 1); omega), j3, kp⟩⟩
set_option maxHeartbeats 4000000 in
set_option maxRecDepth 100000 in
theorem c_X11_close (a : Nat → Nat) (g : Nat → Nat → Int32) (r : Nat → Nat) (σ0 : St) (hpre : -100000 ≤ (σ0 6 17).toInt ∧ (σ0 6 17).toInt ≤ 100000) (i0 : Inv σ0) (l : Launch) (D : va_G) (cy : Nat → ClassId) : Ct l D cy SC r (EC a g) y_X11_close (Cond.code y_X11_close b_X11_close 1 none) 1 [.ref (r 6)] σ0 Z0 [] (QV (fun σ9 => (((σ9 6 17).toInt = (σ0 6 17).toInt - 1) ∧ Inv σ9 ∧ Keep [(6, 15), (6, 17)] [] σ0 σ9))) QF := by
  refine Ct_of (EC_ok a g) (by decide) (Nat.le_of_ble_eq_true rfl) (by decide) (fun X hnn hF => ?_)
  show G SC r X σ0 Z0 [] [(0, .ref (r 6))] [] 0
  have kp : Keep [(6, 15), (6, 17)] [] σ0 σ0 := keep_rf
  refine g_aload_n hF d_X11_close_0 rfl 0 rfl ?_
  refine g_dup hF d_X11_close_1 rfl ?_
  refine g_get (v := .int (σ0 6 17)) hF 17 obC_6 (by decide) m_344 rfl d_X11_close_2 ?_
  refine g_iconst hF (v := 1) d_X11_close_5 (by decide) ?_
  refine g_isub hF d_X11_close_6 ?_
  refine g_put (v := ((σ0 6 17) - 1)) hF 17 obC_6 (by decide) m_344 rfl rfl rfl d_X11_close_7 ?_
  have kp : Keep [(6, 15), (6, 17)] [] σ0 (upC σ0 6 17 ((σ0 6 17) - 1)) := keep_f kp (by decide)
  refine g_aload_n hF d_X11_close_10 rfl 0 rfl ?_
  refine g_aload_n hF d_X11_close_11 rfl 0 rfl ?_
  refine g_get (v := .ref (r 45)) hF 18 obC_6 (by decide) m_345 rfl d_X11_close_12 ?_
  refine g_aload_n hF d_X11_close_15 rfl 0 rfl ?_
  refine g_get (v := .int ((σ0 6 17) - 1)) hF 17 obC_6 (by decide) m_344 rfl d_X11_close_16 ?_
  refine g_callSN (As := [.ref (r 45), .int ((σ0 6 17) - 1)]) (rest := [.ref (r 6)]) hF (c_at a g r (upC σ0 6 17 ((σ0 6 17) - 1)) arC_45 (by decide) ((σ0 6 17) - 1)) (Nat.le_of_ble_eq_true rfl) mS_X12_at nm_1112 rfl rfl (Nat.le_of_ble_eq_true rfl) d_X11_close_19 (k_rop (fun r1 hr1 => ?_))
  have hq1 := hr1
  have hr1 : 0 ≤ r1.toInt ∧ r1.toInt ≤ 100000 := acr_at i0.2.2.2.2.2.2.2.2.2.2.2.2.2.2.2.2.1 (by decide) (by decide) (hr1.imp And.left (fun h => ⟨_, h.2⟩))
  refine g_put (v := r1) hF 15 obC_6 (by decide) m_342 rfl rfl rfl d_X11_close_22 ?_
  have kp : Keep [(6, 15), (6, 17)] [] σ0 (upC (upC σ0 6 17 ((σ0 6 17) - 1)) 6 15 r1) := keep_f kp (by decide)
  have p2 : 0 ≤ r1.toInt ∧ r1.toInt ≤ 100000 := (by have e0 := s_rng r1; omega)
  have j3 : Inv (upC (upC σ0 6 17 ((σ0 6 17) - 1)) 6 15 r1) := ⟨i0.1, i0.2.1, i0.2.2.1, i0.2.2.2.1, i0.2.2.2.2.1, i0.2.2.2.2.2.1, p2, i0.2.2.2.2.2.2.2.1, i0.2.2.2.2.2.2.2.2.1, i0.2.2.2.2.2.2.2.2.2.1, i0.2.2.2.2.2.2.2.2.2.2.1, i0.2.2.2.2.2.2.2.2.2.2.2.1, i0.2.2.2.2.2.2.2.2.2.2.2.2.1, i0.2.2.2.2.2.2.2.2.2.2.2.2.2.1, i0.2.2.2.2.2.2.2.2.2.2.2.2.2.2.1, i0.2.2.2.2.2.2.2.2.2.2.2.2.2.2.2.1, i0.2.2.2.2.2.2.2.2.2.2.2.2.2.2.2.2.1, i0.2.2.2.2.2.2.2.2.2.2.2.2.2.2.2.2.2.1, ⟨(by show r1.toInt ≤ (σ0 6 10).toInt; have hb1 : (σ0 6 15).toInt ≤ (σ0 6 10).toInt := i0.2.2.2.2.2.2.2.2.2.2.2.2.2.2.2.2.2.2.1.1; have hr9 : r1.toInt ≤ (σ0 6 10).toInt := si_at (S := (σ0 6 17).toInt) (hq1.imp And.left id) i0.2.2.2.2.2.2.2.2.2.2.2.2.2.2.2.2.2.2.1.2 (by have q := i0.2.2.2.2.2.1; have e0 := s_rng (σ0 6 10); have e1 := i0.2.2.2.2.2.1; omega) (fun q9 q8 => by have e0 := s_rng (σ0 6 17); have e1 : (1 : Int32).toInt = 1 := (by decide); obtain ⟨k2, e2⟩ := s_sub (σ0 6 17) (1 : Int32); have e2a := s_rng ((σ0 6 17) - 1); omega); have e0 := s_rng (σ0 6 10); have e1 := i0.2.2.2.2.2.1; have e2 := s_rng r1; have e3 := s_rng (σ0 6 17); have e4 : (1 : Int32).toInt = 1 := (by decide); obtain ⟨k5, e5⟩ := s_sub (σ0 6 17) (1 : Int32); have e5a := s_rng ((σ0 6 17) - 1); have e7 := s_rng (σ0 6 15); have e8 := i0.2.2.2.2.2.2.1; have e9 := i0.2.2.2.2.2.2.2.2.2.2.2.2.2.2.2.2.2.2.1.1; omega), (fun z hz1 hz2 => by have hz2 : (z : Int) < ((σ0 6 17) - 1).toInt := hz2; have hb1 : (σ0 6 15).toInt ≤ (σ0 6 10).toInt := i0.2.2.2.2.2.2.2.2.2.2.2.2.2.2.2.2.2.2.1.1; have hr9 : r1.toInt ≤ (σ0 6 10).toInt := si_at (S := (σ0 6 17).toInt) (hq1.imp And.left id) i0.2.2.2.2.2.2.2.2.2.2.2.2.2.2.2.2.2.2.1.2 (by have q := i0.2.2.2.2.2.1; have e0 := s_rng (σ0 6 10); have e1 := i0.2.2.2.2.2.1; omega) (fun q9 q8 => by have e0 := s_rng (σ0 6 17); have e1 : (1 : Int32).toInt = 1 := (by decide); obtain ⟨k2, e2⟩ := s_sub (σ0 6 17) (1 : Int32); have e2a := s_rng ((σ0 6 17) - 1); omega); have hb2 : (z : Int) < (σ0 6 17).toInt → (σ0 45 z).toInt ≤ (σ0 6 10).toInt := i0.2.2.2.2.2.2.2.2.2.2.2.2.2.2.2.2.2.2.1.2 z hz1; have e0 := s_rng (σ0 6 10); have e1 := i0.2.2.2.2.2.1; have e2 := s_rng r1; have e3 := s_rng (σ0 6 17); have e4 : (1 : Int32).toInt = 1 := (by decide); obtain ⟨k5, e5⟩ := s_sub (σ0 6 17) (1 : Int32); have e5a := s_rng ((σ0 6 17) - 1); have e7 := s_rng (σ0 6 15); have e8 := i0.2.2.2.2.2.2.1; have e9 := i0.2.2.2.2.2.2.2.2.2.2.2.2.2.2.2.2.2.2.1.1; show (σ0 45 z).toInt ≤ (σ0 6 10).toInt; omega)⟩, i0.2.2.2.2.2.2.2.2.2.2.2.2.2.2.2.2.2.2.2⟩
  exact g_vret hF rfl d_X11_close_25 ⟨rfl, rfl, rfl, ⟨(by show ((σ0 6 17) - 1).toInt = (σ0 6 17).toInt - 1; have e0 := s_rng (σ0 6 17); have e1 : (1 : Int32).toInt = 1 := (by decide); obtain ⟨k2, e2⟩ := s_sub (σ0 6 17) (1 : Int32); have e2a := s_rng ((σ0 6 17) - 1); omega), j3, kp⟩⟩
set_option maxHeartbeats 4000000 in
set_option maxRecDepth 100000 in
theorem c_X7_begin (a : Nat → Nat) (g : Nat → Nat → Int32) (r : Nat → Nat) (σ0 : St) (a1 : Int32) (i0 : Inv σ0) (z_a1 : a1 = 0 ∨ a1 = 1) (l : Launch) (D : va_G) (cy : Nat → ClassId) : Ct l D cy SC r (EC a g) y_X7_begin (Cond.code y_X7_begin b_X7_begin 2 none) 1 [.ref (r 9), .int a1] σ0 Z0 [] (QV (fun σ9 => (Inv σ9 ∧ Keep [(9, 5)] [49, 50, 51, 52] σ0 σ9))) QF := by
  refine Ct_of (EC_ok a g) (by decide) (Nat.le_of_ble_eq_true rfl) (by decide) (fun X hnn hF => ?_)
  show G SC r X σ0 Z0 [] [(0, .ref (r 9)), (1, .int a1)] [] 0
  have kp : Keep [(9, 5)] [49, 50, 51, 52] σ0 σ0 := keep_rf
  refine g_aload_n hF d_X7_begin_0 rfl 0 rfl ?_
  refine g_get (v := .ref (r 49)) hF 6 obC_9 (by decide) m_559 rfl d_X7_begin_1 ?_
  refine g_aload_n hF d_X7_begin_4 rfl 0 rfl ?_
  refine g_get (v := .int (σ0 9 5)) hF 5 obC_9 (by decide) m_558 rfl d_X7_begin_5 ?_
  refine g_iload_n hF d_X7_begin_8 rfl 1 rfl ?_
  refine g_if_eq hF 16 d_X7_begin_9 (by decide) rfl (fun c1_9 => ?_) (fun c1_9 => ?_)
  · -- taken at 9
    refine g_iconst hF (v := 0) d_X7_begin_16 (by decide) ?_
    refine g_callSN (As := [.ref (r 49), .int (σ0 9 5), .int 0]) (rest := []) hF (c_set a g r σ0 arC_49 (by decide) (σ0 9 5) (0 : Int32)) (Nat.le_of_ble_eq_true rfl) mS_X12_set nm_1312 rfl rfl (Nat.le_of_ble_eq_true rfl) d_X7_begin_17 (k_v (fun σ2 ⟨g2, eσ2, hg2⟩ => ?_))
    subst eσ2
    have kp : Keep [(9, 5)] [49, 50, 51, 52] σ0 (upF σ0 49 g2) := keep_F kp (by decide)
    refine g_aload_n hF d_X7_begin_20 rfl 0 rfl ?_
    refine g_get (v := .ref (r 50)) hF 7 obC_9 (by decide) m_560 rfl d_X7_begin_21 ?_
    refine g_aload_n hF d_X7_begin_24 rfl 0 rfl ?_
    refine g_get (v := .int (σ0 9 5)) hF 5 obC_9 (by decide) m_558 rfl d_X7_begin_25 ?_
    refine g_aload_n hF d_X7_begin_28 rfl 0 rfl ?_
    refine g_get (v := .ref (r 4)) hF 2 obC_9 (by decide) m_555 rfl d_X7_begin_29 ?_
    refine g_getN (v := .int (σ0 4 1)) hF 1 obC_4 (by decide) nm_154 rfl d_X7_begin_32 ?_
    refine g_callSN (As := [.ref (r 50), .int (σ0 9 5), .int (σ0 4 1)]) (rest := []) hF (c_set a g r (upF σ0 49 g2) arC_50 (by decide) (σ0 9 5) (σ0 4 1)) (Nat.le_of_ble_eq_true rfl) mS_X12_set nm_1312 rfl rfl (Nat.le_of_ble_eq_true rfl) d_X7_begin_35 (k_v (fun σ3 ⟨g3, eσ3, hg3⟩ => ?_))
    subst eσ3
    have kp : Keep [(9, 5)] [49, 50, 51, 52] σ0 (upF (upF σ0 49 g2) 50 g3) := keep_F kp (by decide)
    refine g_aload_n hF d_X7_begin_38 rfl 0 rfl ?_
    refine g_get (v := .ref (r 51)) hF 8 obC_9 (by decide) m_561 rfl d_X7_begin_39 ?_
    refine g_aload_n hF d_X7_begin_42 rfl 0 rfl ?_
    refine g_get (v := .int (σ0 9 5)) hF 5 obC_9 (by decide) m_558 rfl d_X7_begin_43 ?_
    refine g_iconst hF (v := (-1)) d_X7_begin_46 (by decide) ?_
    refine g_callSN (As := [.ref (r 51), .int (σ0 9 5), .int (-1)]) (rest := []) hF (c_set a g r (upF (upF σ0 49 g2) 50 g3) arC_51 (by decide) (σ0 9 5) ((-1) : Int32)) (Nat.le_of_ble_eq_true rfl) mS_X12_set nm_1312 rfl rfl (Nat.le_of_ble_eq_true rfl) d_X7_begin_47 (k_v (fun σ4 ⟨g4, eσ4, hg4⟩ => ?_))
    subst eσ4
    have kp : Keep [(9, 5)] [49, 50, 51, 52] σ0 (upF (upF (upF σ0 49 g2) 50 g3) 51 g4) := keep_F kp (by decide)
    refine g_aload_n hF d_X7_begin_50 rfl 0 rfl ?_
    refine g_get (v := .ref (r 52)) hF 9 obC_9 (by decide) m_562 rfl d_X7_begin_51 ?_
    refine g_aload_n hF d_X7_begin_54 rfl 0 rfl ?_
    refine g_get (v := .int (σ0 9 5)) hF 5 obC_9 (by decide) m_558 rfl d_X7_begin_55 ?_
    refine g_iconst hF (v := (-1)) d_X7_begin_58 (by decide) ?_
    refine g_callSN (As := [.ref (r 52), .int (σ0 9 5), .int (-1)]) (rest := []) hF (c_set a g r (upF (upF (upF σ0 49 g2) 50 g3) 51 g4) arC_52 (by decide) (σ0 9 5) ((-1) : Int32)) (Nat.le_of_ble_eq_true rfl) mS_X12_set nm_1312 rfl rfl (Nat.le_of_ble_eq_true rfl) d_X7_begin_59 (k_v (fun σ5 ⟨g5, eσ5, hg5⟩ => ?_))
    subst eσ5
    have kp : Keep [(9, 5)] [49, 50, 51, 52] σ0 (upF (upF (upF (upF σ0 49 g2) 50 g3) 51 g4) 52 g5) := keep_F kp (by decide)
    refine g_aload_n hF d_X7_begin_62 rfl 0 rfl ?_
    refine g_dup hF d_X7_begin_63 rfl ?_
    refine g_get (v := .int (σ0 9 5)) hF 5 obC_9 (by decide) m_558 rfl d_X7_begin_64 ?_
    refine g_iconst hF (v := 1) d_X7_begin_67 (by decide) ?_
    refine g_iadd hF d_X7_begin_68 ?_
    refine g_put (v := ((σ0 9 5) + 1)) hF 5 obC_9 (by decide) m_558 rfl rfl rfl d_X7_begin_69 ?_
    have kp : Keep [(9, 5)] [49, 50, 51, 52] σ0 (upC (upF (upF (upF (upF σ0 49 g2) 50 g3) 51 g4) 52 g5) 9 5 ((σ0 9 5) + 1)) := keep_f kp (by decide)
    have j6 : Inv (upC (upF (upF (upF (upF σ0 49 g2) 50 g3) 51 g4) 52 g5) 9 5 ((σ0 9 5) + 1)) := ⟨i0.1, i0.2.1, i0.2.2.1, i0.2.2.2.1, i0.2.2.2.2.1, i0.2.2.2.2.2.1, i0.2.2.2.2.2.2.1, i0.2.2.2.2.2.2.2.1, i0.2.2.2.2.2.2.2.2.1, i0.2.2.2.2.2.2.2.2.2.1, i0.2.2.2.2.2.2.2.2.2.2.1, i0.2.2.2.2.2.2.2.2.2.2.2.1, i0.2.2.2.2.2.2.2.2.2.2.2.2.1, i0.2.2.2.2.2.2.2.2.2.2.2.2.2.1, i0.2.2.2.2.2.2.2.2.2.2.2.2.2.2.1, i0.2.2.2.2.2.2.2.2.2.2.2.2.2.2.2.1, i0.2.2.2.2.2.2.2.2.2.2.2.2.2.2.2.2.1, i0.2.2.2.2.2.2.2.2.2.2.2.2.2.2.2.2.2.1, i0.2.2.2.2.2.2.2.2.2.2.2.2.2.2.2.2.2.2.1, i0.2.2.2.2.2.2.2.2.2.2.2.2.2.2.2.2.2.2.2⟩
    exact g_vret hF rfl d_X7_begin_72 ⟨rfl, rfl, rfl, ⟨j6, kp⟩⟩
  · -- not taken at 9
    refine g_iconst hF (v := 1) d_X7_begin_12 (by decide) ?_
    refine g_goto hF 17 d_X7_begin_13 (by decide) ?_
    refine g_callSN (As := [.ref (r 49), .int (σ0 9 5), .int 1]) (rest := []) hF (c_set a g r σ0 arC_49 (by decide) (σ0 9 5) (1 : Int32)) (Nat.le_of_ble_eq_true rfl) mS_X12_set nm_1312 rfl rfl (Nat.le_of_ble_eq_true rfl) d_X7_begin_17 (k_v (fun σ7 ⟨g7, eσ7, hg7⟩ => ?_))
    subst eσ7
    have kp : Keep [(9, 5)] [49, 50, 51, 52] σ0 (upF σ0 49 g7) := keep_F kp (by decide)
    refine g_aload_n hF d_X7_begin_20 rfl 0 rfl ?_
    refine g_get (v := .ref (r 50)) hF 7 obC_9 (by decide) m_560 rfl d_X7_begin_21 ?_
    refine g_aload_n hF d_X7_begin_24 rfl 0 rfl ?_
    refine g_get (v := .int (σ0 9 5)) hF 5 obC_9 (by decide) m_558 rfl d_X7_begin_25 ?_
    refine g_aload_n hF d_X7_begin_28 rfl 0 rfl ?_
    refine g_get (v := .ref (r 4)) hF 2 obC_9 (by decide) m_555 rfl d_X7_begin_29 ?_
    refine g_getN (v := .int (σ0 4 1)) hF 1 obC_4 (by decide) nm_154 rfl d_X7_begin_32 ?_
    refine g_callSN (As := [.ref (r 50), .int (σ0 9 5), .int (σ0 4 1)]) (rest := []) hF (c_set a g r (upF σ0 49 g7) arC_50 (by decide) (σ0 9 5) (σ0 4 1)) (Nat.le_of_ble_eq_true rfl) mS_X12_set nm_1312 rfl rfl (Nat.le_of_ble_eq_true rfl) d_X7_begin_35 (k_v (fun σ8 ⟨g8, eσ8, hg8⟩ => ?_))
    subst eσ8
    have kp : Keep [(9, 5)] [49, 50, 51, 52] σ0 (upF (upF σ0 49 g7) 50 g8) := keep_F kp (by decide)
    refine g_aload_n hF d_X7_begin_38 rfl 0 rfl ?_
    refine g_get (v := .ref (r 51)) hF 8 obC_9 (by decide) m_561 rfl d_X7_begin_39 ?_
    refine g_aload_n hF d_X7_begin_42 rfl 0 rfl ?_
    refine g_get (v := .int (σ0 9 5)) hF 5 obC_9 (by decide) m_558 rfl d_X7_begin_43 ?_
    refine g_iconst hF (v := (-1)) d_X7_begin_46 (by decide) ?_
    refine g_callSN (As := [.ref (r 51), .int (σ0 9 5), .int (-1)]) (rest := []) hF (c_set a g r (upF (upF σ0 49 g7) 50 g8) arC_51 (by decide) (σ0 9 5) ((-1) : Int32)) (Nat.le_of_ble_eq_true rfl) mS_X12_set nm_1312 rfl rfl (Nat.le_of_ble_eq_true rfl) d_X7_begin_47 (k_v (fun σ9 ⟨g9, eσ9, hg9⟩ => ?_))
    subst eσ9
    have kp : Keep [(9, 5)] [49, 50, 51, 52] σ0 (upF (upF (upF σ0 49 g7) 50 g8) 51 g9) := keep_F kp (by decide)
    refine g_aload_n hF d_X7_begin_50 rfl 0 rfl ?_
    refine g_get (v := .ref (r 52)) hF 9 obC_9 (by decide) m_562 rfl d_X7_begin_51 ?_
    refine g_aload_n hF d_X7_begin_54 rfl 0 rfl ?_
    refine g_get (v := .int (σ0 9 5)) hF 5 obC_9 (by decide) m_558 rfl d_X7_begin_55 ?_
    refine g_iconst hF (v := (-1)) d_X7_begin_58 (by decide) ?_
    refine g_callSN (As := [.ref (r 52), .int (σ0 9 5), .int (-1)]) (rest := []) hF (c_set a g r (upF (upF (upF σ0 49 g7) 50 g8) 51 g9) arC_52 (by decide) (σ0 9 5) ((-1) : Int32)) (Nat.le_of_ble_eq_true rfl) mS_X12_set nm_1312 rfl rfl (Nat.le_of_ble_eq_true rfl) d_X7_begin_59 (k_v (fun σ10 ⟨g10, eσ10, hg10⟩ => ?_))
    subst eσ10
    have kp : Keep [(9, 5)] [49, 50, 51, 52] σ0 (upF (upF (upF (upF σ0 49 g7) 50 g8) 51 g9) 52 g10) := keep_F kp (by decide)
    refine g_aload_n hF d_X7_begin_62 rfl 0 rfl ?_
    refine g_dup hF d_X7_begin_63 rfl ?_
    refine g_get (v := .int (σ0 9 5)) hF 5 obC_9 (by decide) m_558 rfl d_X7_begin_64 ?_
    refine g_iconst hF (v := 1) d_X7_begin_67 (by decide) ?_
    refine g_iadd hF d_X7_begin_68 ?_
    refine g_put (v := ((σ0 9 5) + 1)) hF 5 obC_9 (by decide) m_558 rfl rfl rfl d_X7_begin_69 ?_
    have kp : Keep [(9, 5)] [49, 50, 51, 52] σ0 (upC (upF (upF (upF (upF σ0 49 g7) 50 g8) 51 g9) 52 g10) 9 5 ((σ0 9 5) + 1)) := keep_f kp (by decide)
    have j11 : Inv (upC (upF (upF (upF (upF σ0 49 g7) 50 g8) 51 g9) 52 g10) 9 5 ((σ0 9 5) + 1)) := ⟨i0.1, i0.2.1, i0.2.2.1, i0.2.2.2.1, i0.2.2.2.2.1, i0.2.2.2.2.2.1, i0.2.2.2.2.2.2.1, i0.2.2.2.2.2.2.2.1, i0.2.2.2.2.2.2.2.2.1, i0.2.2.2.2.2.2.2.2.2.1, i0.2.2.2.2.2.2.2.2.2.2.1, i0.2.2.2.2.2.2.2.2.2.2.2.1, i0.2.2.2.2.2.2.2.2.2.2.2.2.1, i0.2.2.2.2.2.2.2.2.2.2.2.2.2.1, i0.2.2.2.2.2.2.2.2.2.2.2.2.2.2.1, i0.2.2.2.2.2.2.2.2.2.2.2.2.2.2.2.1, i0.2.2.2.2.2.2.2.2.2.2.2.2.2.2.2.2.1, i0.2.2.2.2.2.2.2.2.2.2.2.2.2.2.2.2.2.1, i0.2.2.2.2.2.2.2.2.2.2.2.2.2.2.2.2.2.2.1, i0.2.2.2.2.2.2.2.2.2.2.2.2.2.2.2.2.2.2.2⟩
    exact g_vret hF rfl d_X7_begin_72 ⟨rfl, rfl, rfl, ⟨j11, kp⟩⟩
