set_option maxHeartbeats 4000000 in
set_option maxRecDepth 100000 in
theorem c_X2_combine (a : Nat → Nat) (g : Nat → Nat → Int32) (r : Nat → Nat) (σ0 : St) (a0 : Int32) (qa1 : Nat) (hqa1 : isOp qa1) (qa2 : Nat) (hqa2 : isOp qa2) (i0 : Inv σ0) (l : Launch) (D : va_G) (cy : Nat → ClassId) : Ct l D cy SC r (EC a g) y_X2_combine (Cond.code y_X2_combine b_X2_combine 5 none) 2 [.int a0, .ref (r qa1), .ref (r qa2)] σ0 Z0 [] (QV (fun σ9 => (Inv σ9 ∧ Keep [] [] σ0 σ9))) QF := by
  refine Ct_of (EC_ok a g) (by decide) (Nat.le_of_ble_eq_true rfl) (by decide) (fun X hnn hF => ?_)
  show G SC r X σ0 Z0 [] [(0, .int a0), (1, .ref (r qa1)), (2, .ref (r qa2))] [] 0
  have b126 : ∀ (σ : St) (x0 : Int32) (qx1 : Nat) (qx2 : Nat) (x3 : Int32) (x4 : Int32) , Inv σ → Keep [] [] σ0 σ → x3 = 0 ∨ x3 = 1 → x4 = 0 ∨ x4 = 1 → isOp qx1 → isOp qx2 → G SC r X σ Z0 [] [(0, .int x0), (1, .ref (r qx1)), (2, .ref (r qx2)), (3, .int x3), (4, .int x4)] [] 126 := by
    intro σ x0 qx1 qx2 x3 x4 inv kp z_x3 z_x4 hqx1 hqx2
    refine g_iload_n hF d_X2_combine_126 rfl 0 rfl ?_
    refine g_bipush hF (v := 43) d_X2_combine_127 (by decide) ?_
    refine g_icmp_ne (yv := 43) hF 176 d_X2_combine_129 (by decide) rfl (by decide) (fun c1_129 => ?_) (fun c1_129 => ?_)
    · -- taken at 129
      refine g_aload_n hF d_X2_combine_176 rfl 1 rfl ?_
      refine g_iconst hF (v := 0) d_X2_combine_177 (by decide) ?_
      refine g_putN hF 6 (obC_op hqx1) (by decide) nm_412 rfl rfl (rf_op hqx1) d_X2_combine_178 ?_
      obtain ⟨σ2, eσ2⟩ : ∃ z, z = upC σ qx1 6 (0 : Int32) := ⟨_, rfl⟩
      rw [← eσ2]
      have ik2 : Keep [] [] σ σ2 := by rw [eσ2]; exact keep_op hqx1
      have kp : Keep [] [] σ0 σ2 := keep_c kp ik2 (by decide) (by decide)
      have iσ2 : Inv σ2 := inv_keep ik2 inv
      exact g_vret hF rfl d_X2_combine_181 ⟨rfl, rfl, rfl, ⟨iσ2, kp⟩⟩
    · -- not taken at 129
      refine g_aload_n hF d_X2_combine_132 rfl 1 rfl ?_
      refine g_callVN (As := []) (rest := []) hF (c_X6_isConstant a g r σ qx1 hqx1 inv) (Nat.le_of_ble_eq_true rfl) mV_X6_isConstant nm_1222 (recv_ob (obC_op hqx1)) rfl rfl (Nat.le_of_ble_eq_true rfl) d_X2_combine_133 (k_roz (fun r3 hz3 => ?_))
      refine g_if_eq hF 176 d_X2_combine_136 (by decide) rfl (fun c4_136 => ?_) (fun c4_136 => ?_)
      · -- taken at 136
        refine g_aload_n hF d_X2_combine_176 rfl 1 rfl ?_
        refine g_iconst hF (v := 0) d_X2_combine_177 (by decide) ?_
        refine g_putN hF 6 (obC_op hqx1) (by decide) nm_412 rfl rfl (rf_op hqx1) d_X2_combine_178 ?_
        obtain ⟨σ5, eσ5⟩ : ∃ z, z = upC σ qx1 6 (0 : Int32) := ⟨_, rfl⟩
        rw [← eσ5]
        have ik5 : Keep [] [] σ σ5 := by rw [eσ5]; exact keep_op hqx1
        have kp : Keep [] [] σ0 σ5 := keep_c kp ik5 (by decide) (by decide)
        have iσ5 : Inv σ5 := inv_keep ik5 inv
        exact g_vret hF rfl d_X2_combine_181 ⟨rfl, rfl, rfl, ⟨iσ5, kp⟩⟩
      · -- not taken at 136
        refine g_aload_n hF d_X2_combine_139 rfl 2 rfl ?_
        refine g_getN hF 6 (obC_op hqx2) (by decide) nm_412 (fval_op hqx2) d_X2_combine_140 ?_
        refine g_any (fun v6 => ?_)
        refine g_iconst hF (v := 2) d_X2_combine_143 (by decide) ?_
        refine g_icmp_ne (yv := 2) hF 176 d_X2_combine_144 (by decide) rfl (by decide) (fun c7_144 => ?_) (fun c7_144 => ?_)
        · -- taken at 144
          refine g_aload_n hF d_X2_combine_176 rfl 1 rfl ?_
          refine g_iconst hF (v := 0) d_X2_combine_177 (by decide) ?_
          refine g_putN hF 6 (obC_op hqx1) (by decide) nm_412 rfl rfl (rf_op hqx1) d_X2_combine_178 ?_
          obtain ⟨σ8, eσ8⟩ : ∃ z, z = upC σ qx1 6 (0 : Int32) := ⟨_, rfl⟩
          rw [← eσ8]
          have ik8 : Keep [] [] σ σ8 := by rw [eσ8]; exact keep_op hqx1
          have kp : Keep [] [] σ0 σ8 := keep_c kp ik8 (by decide) (by decide)
          have iσ8 : Inv σ8 := inv_keep ik8 inv
          exact g_vret hF rfl d_X2_combine_181 ⟨rfl, rfl, rfl, ⟨iσ8, kp⟩⟩
        · -- not taken at 144
          refine g_aload_n hF d_X2_combine_147 rfl 1 rfl ?_
          refine g_iconst hF (v := 2) d_X2_combine_148 (by decide) ?_
          refine g_putN hF 6 (obC_op hqx1) (by decide) nm_412 rfl rfl (rf_op hqx1) d_X2_combine_149 ?_
          obtain ⟨σ9, eσ9⟩ : ∃ z, z = upC σ qx1 6 (2 : Int32) := ⟨_, rfl⟩
          rw [← eσ9]
          have ik9 : Keep [] [] σ σ9 := by rw [eσ9]; exact keep_op hqx1
          have kp : Keep [] [] σ0 σ9 := keep_c kp ik9 (by decide) (by decide)
          have iσ9 : Inv σ9 := inv_keep ik9 inv
          refine g_aload_n hF d_X2_combine_152 rfl 1 rfl ?_
          refine g_aload_n hF d_X2_combine_153 rfl 2 rfl ?_
          refine g_getN hF 7 (obC_op hqx2) (by decide) nm_414 (fval_op hqx2) d_X2_combine_154 ?_
          refine g_any (fun v10 => ?_)
          refine g_putN hF 7 (obC_op hqx1) (by decide) nm_414 rfl rfl (rf_op hqx1) d_X2_combine_157 ?_
          obtain ⟨σ11, eσ11⟩ : ∃ z, z = upC σ9 qx1 7 v10 := ⟨_, rfl⟩
          rw [← eσ11]
          have ik11 : Keep [] [] σ9 σ11 := by rw [eσ11]; exact keep_op hqx1
          have kp : Keep [] [] σ0 σ11 := keep_c kp ik11 (by decide) (by decide)
          have iσ11 : Inv σ11 := inv_keep ik11 iσ9
          refine g_aload_n hF d_X2_combine_160 rfl 1 rfl ?_
          refine g_dup hF d_X2_combine_161 rfl ?_
          refine g_getN hF 8 (obC_op hqx1) (by decide) nm_418 (fval_op hqx1) d_X2_combine_162 ?_
          refine g_any (fun v12 => ?_)
          refine g_aload_n hF d_X2_combine_165 rfl 2 rfl ?_
          refine g_getN hF 8 (obC_op hqx2) (by decide) nm_418 (fval_op hqx2) d_X2_combine_166 ?_
          refine g_any (fun v13 => ?_)
          refine g_iadd hF d_X2_combine_169 ?_
          refine g_putN hF 8 (obC_op hqx1) (by decide) nm_418 rfl rfl (rf_op hqx1) d_X2_combine_170 ?_
          obtain ⟨σ14, eσ14⟩ : ∃ z, z = upC σ11 qx1 8 (v12 + v13) := ⟨_, rfl⟩
          rw [← eσ14]
          have ik14 : Keep [] [] σ11 σ14 := by rw [eσ14]; exact keep_op hqx1
          have kp : Keep [] [] σ0 σ14 := keep_c kp ik14 (by decide) (by decide)
          have iσ14 : Inv σ14 := inv_keep ik14 iσ11
          refine g_goto hF 181 d_X2_combine_173 (by decide) ?_
          exact g_vret hF rfl d_X2_combine_181 ⟨rfl, rfl, rfl, ⟨iσ14, kp⟩⟩
  have b87 : ∀ (σ : St) (x0 : Int32) (qx1 : Nat) (qx2 : Nat) (x3 : Int32) (x4 : Int32) , Inv σ → Keep [] [] σ0 σ → x3 = 0 ∨ x3 = 1 → x4 = 0 ∨ x4 = 1 → isOp qx1 → isOp qx2 → G SC r X σ Z0 [] [(0, .int x0), (1, .ref (r qx1)), (2, .ref (r qx2)), (3, .int x3), (4, .int x4)] [] 87 := by
    intro σ x0 qx1 qx2 x3 x4 inv kp z_x3 z_x4 hqx1 hqx2
    refine g_iload hF d_X2_combine_87 4 rfl ?_
    refine g_if_eq hF 126 d_X2_combine_89 (by decide) rfl (fun c15_89 => ?_) (fun c15_89 => ?_)
    · -- taken at 89
      exact b126 σ x0 qx1 qx2 x3 x4 inv kp z_x3 z_x4 hqx1 hqx2
    · -- not taken at 89
      refine g_aload_n hF d_X2_combine_92 rfl 1 rfl ?_
      refine g_getN hF 6 (obC_op hqx1) (by decide) nm_412 (fval_op hqx1) d_X2_combine_93 ?_
      refine g_any (fun v16 => ?_)
      refine g_iconst hF (v := 2) d_X2_combine_96 (by decide) ?_
      refine g_icmp_ne (yv := 2) hF 126 d_X2_combine_97 (by decide) rfl (by decide) (fun c17_97 => ?_) (fun c17_97 => ?_)
      · -- taken at 97
        exact b126 σ x0 qx1 qx2 x3 x4 inv kp z_x3 z_x4 hqx1 hqx2
      · -- not taken at 97
        refine g_aload_n hF d_X2_combine_100 rfl 2 rfl ?_
        refine g_callVN (As := []) (rest := []) hF (c_X6_isConstant a g r σ qx2 hqx2 inv) (Nat.le_of_ble_eq_true rfl) mV_X6_isConstant nm_1222 (recv_ob (obC_op hqx2)) rfl rfl (Nat.le_of_ble_eq_true rfl) d_X2_combine_101 (k_roz (fun r18 hz18 => ?_))
        refine g_if_eq hF 126 d_X2_combine_104 (by decide) rfl (fun c19_104 => ?_) (fun c19_104 => ?_)
        · -- taken at 104
          exact b126 σ x0 qx1 qx2 x3 x4 inv kp z_x3 z_x4 hqx1 hqx2
        · -- not taken at 104
          refine g_aload_n hF d_X2_combine_107 rfl 1 rfl ?_
          refine g_iload_n hF d_X2_combine_108 rfl 0 rfl ?_
          refine g_aload_n hF d_X2_combine_109 rfl 1 rfl ?_
          refine g_getN hF 8 (obC_op hqx1) (by decide) nm_418 (fval_op hqx1) d_X2_combine_110 ?_
          refine g_any (fun v20 => ?_)
          refine g_aload_n hF d_X2_combine_113 rfl 2 rfl ?_
          refine g_getN hF 8 (obC_op hqx2) (by decide) nm_418 (fval_op hqx2) d_X2_combine_114 ?_
          refine g_any (fun v21 => ?_)
          refine g_callSN (As := [.int x0, .int v20, .int v21]) (rest := [.ref (r qx1)]) hF (c_X5_worked a g r σ x0 v20 v21 inv) (Nat.le_of_ble_eq_true rfl) mS_X5_worked nm_1226 rfl rfl (Nat.le_of_ble_eq_true rfl) d_X2_combine_117 (k_ro (fun r22 => ?_))
          refine g_putN hF 8 (obC_op hqx1) (by decide) nm_418 rfl rfl (rf_op hqx1) d_X2_combine_120 ?_
          obtain ⟨σ23, eσ23⟩ : ∃ z, z = upC σ qx1 8 r22 := ⟨_, rfl⟩
          rw [← eσ23]
          have ik23 : Keep [] [] σ σ23 := by rw [eσ23]; exact keep_op hqx1
          have kp : Keep [] [] σ0 σ23 := keep_c kp ik23 (by decide) (by decide)
          have iσ23 : Inv σ23 := inv_keep ik23 inv
          refine g_goto hF 181 d_X2_combine_123 (by decide) ?_
          exact g_vret hF rfl d_X2_combine_181 ⟨rfl, rfl, rfl, ⟨iσ23, kp⟩⟩
  have b42 : ∀ (σ : St) (x0 : Int32) (qx1 : Nat) (qx2 : Nat) (x3 : Int32) (y0 : Int32) , Inv σ → Keep [] [] σ0 σ → x3 = 0 ∨ x3 = 1 → y0 = 0 ∨ y0 = 1 → isOp qx1 → isOp qx2 → G SC r X σ Z0 [] [(0, .int x0), (1, .ref (r qx1)), (2, .ref (r qx2)), (3, .int x3)] [.int y0] 42 := by
    intro σ x0 qx1 qx2 x3 y0 inv kp z_x3 z_y0 hqx1 hqx2
    refine g_istore hF [(4, .int y0), (0, .int x0), (1, .ref (r qx1)), (2, .ref (r qx2)), (3, .int x3)] d_X2_combine_42 hnn (by decide) rfl ?_
    refine g_aload_n hF d_X2_combine_44 rfl 2 rfl ?_
    refine g_callVN (As := []) (rest := []) hF (c_X6_isConstant a g r σ qx1 hqx1 inv) (Nat.le_of_ble_eq_true rfl) mV_X6_isConstant nm_1222 (recv_ob (obC_op hqx1)) rfl rfl (Nat.le_of_ble_eq_true rfl) d_X2_combine_45 (k_roz (fun r24 hz24 => ?_))
    refine g_if_eq hF 87 d_X2_combine_48 (by decide) rfl (fun c25_48 => ?_) (fun c25_48 => ?_)
    · -- taken at 48
      exact g_sub (L' := [(0, .int x0), (1, .ref (r qx1)), (2, .ref (r qx2)), (3, .int x3), (4, .int y0)]) [1, 2, 3, 4, 0] rfl (b87 σ x0 qx1 qx2 x3 y0 inv kp z_x3 z_y0 hqx1 hqx2)
    · -- not taken at 48
      refine g_aload_n hF d_X2_combine_51 rfl 3 rfl ?_
      refine g_callVN (As := []) (rest := []) hF (c_X6_isConstant a g r σ qx2 hqx2 inv) (Nat.le_of_ble_eq_true rfl) mV_X6_isConstant nm_1222 (recv_ob (obC_op hqx2)) rfl rfl (Nat.le_of_ble_eq_true rfl) d_X2_combine_52 (k_roz (fun r26 hz26 => ?_))
      refine g_if_eq hF 87 d_X2_combine_55 (by decide) rfl (fun c27_55 => ?_) (fun c27_55 => ?_)
      · -- taken at 55
        exact g_sub (L' := [(0, .int x0), (1, .ref (r qx1)), (2, .ref (r qx2)), (3, .int x3), (4, .int y0)]) [1, 2, 3, 4, 0] rfl (b87 σ x0 qx1 qx2 x3 y0 inv kp z_x3 z_y0 hqx1 hqx2)
      · -- not taken at 55
        refine g_iload_n hF d_X2_combine_58 rfl 1 rfl ?_
        refine g_bipush hF (v := 57) d_X2_combine_59 (by decide) ?_
        refine g_icmp_ge (yv := 57) hF 87 d_X2_combine_61 (by decide) rfl (by decide) (fun c28_61 => ?_) (fun c28_61 => ?_)
        · -- taken at 61
          exact g_sub (L' := [(0, .int x0), (1, .ref (r qx1)), (2, .ref (r qx2)), (3, .int x3), (4, .int y0)]) [1, 2, 3, 4, 0] rfl (b87 σ x0 qx1 qx2 x3 y0 inv kp z_x3 z_y0 hqx1 hqx2)
        · -- not taken at 61
          refine g_iload_n hF d_X2_combine_64 rfl 4 rfl ?_
          refine g_if_ne hF 87 d_X2_combine_65 (by decide) rfl (fun c29_65 => ?_) (fun c29_65 => ?_)
          · -- taken at 65
            exact g_sub (L' := [(0, .int x0), (1, .ref (r qx1)), (2, .ref (r qx2)), (3, .int x3), (4, .int y0)]) [1, 2, 3, 4, 0] rfl (b87 σ x0 qx1 qx2 x3 y0 inv kp z_x3 z_y0 hqx1 hqx2)
          · -- not taken at 65
            refine g_aload_n hF d_X2_combine_68 rfl 2 rfl ?_
            refine g_iload_n hF d_X2_combine_69 rfl 1 rfl ?_
            refine g_aload_n hF d_X2_combine_70 rfl 2 rfl ?_
            refine g_getN hF 8 (obC_op hqx1) (by decide) nm_418 (fval_op hqx1) d_X2_combine_71 ?_
            refine g_any (fun v30 => ?_)
            refine g_aload_n hF d_X2_combine_74 rfl 3 rfl ?_
            refine g_getN hF 8 (obC_op hqx2) (by decide) nm_418 (fval_op hqx2) d_X2_combine_75 ?_
            refine g_any (fun v31 => ?_)
            refine g_callSN (As := [.int x0, .int v30, .int v31]) (rest := [.ref (r qx1)]) hF (c_X5_worked a g r σ x0 v30 v31 inv) (Nat.le_of_ble_eq_true rfl) mS_X5_worked nm_1226 rfl rfl (Nat.le_of_ble_eq_true rfl) d_X2_combine_78 (k_ro (fun r32 => ?_))
            refine g_putN hF 8 (obC_op hqx1) (by decide) nm_418 rfl rfl (rf_op hqx1) d_X2_combine_81 ?_
            obtain ⟨σ33, eσ33⟩ : ∃ z, z = upC σ qx1 8 r32 := ⟨_, rfl⟩
            rw [← eσ33]
            have ik33 : Keep [] [] σ σ33 := by rw [eσ33]; exact keep_op hqx1
            have kp : Keep [] [] σ0 σ33 := keep_c kp ik33 (by decide) (by decide)
            have iσ33 : Inv σ33 := inv_keep ik33 inv
            refine g_goto hF 181 d_X2_combine_84 (by decide) ?_
            exact g_vret hF rfl d_X2_combine_181 ⟨rfl, rfl, rfl, ⟨iσ33, kp⟩⟩
  have b37 : ∀ (σ : St) (x0 : Int32) (qx1 : Nat) (qx2 : Nat) (x3 : Int32) , Inv σ → Keep [] [] σ0 σ → x3 = 0 ∨ x3 = 1 → isOp qx1 → isOp qx2 → G SC r X σ Z0 [] [(0, .int x0), (1, .ref (r qx1)), (2, .ref (r qx2)), (3, .int x3)] [] 37 := by
    intro σ x0 qx1 qx2 x3 inv kp z_x3 hqx1 hqx2
    refine g_iconst hF (v := 1) d_X2_combine_37 (by decide) ?_
    refine g_goto hF 42 d_X2_combine_38 (by decide) ?_
    exact b42 σ x0 qx1 qx2 x3 (1 : Int32) inv kp z_x3 (Or.inr rfl) hqx1 hqx2
  have b24 : ∀ (σ : St) (x0 : Int32) (qx1 : Nat) (qx2 : Nat) (y0 : Int32) , Inv σ → Keep [] [] σ0 σ → y0 = 0 ∨ y0 = 1 → isOp qx1 → isOp qx2 → G SC r X σ Z0 [] [(0, .int x0), (1, .ref (r qx1)), (2, .ref (r qx2))] [.int y0] 24 := by
    intro σ x0 qx1 qx2 y0 inv kp z_y0 hqx1 hqx2
    refine g_istore_n hF [(3, .int y0), (0, .int x0), (1, .ref (r qx1)), (2, .ref (r qx2))] d_X2_combine_24 rfl hnn (by decide) rfl ?_
    refine g_iload_n hF d_X2_combine_25 rfl 1 rfl ?_
    refine g_bipush hF (v := 43) d_X2_combine_26 (by decide) ?_
    refine g_icmp_eq (yv := 43) hF 37 d_X2_combine_28 (by decide) rfl (by decide) (fun c34_28 => ?_) (fun c34_28 => ?_)
    · -- taken at 28
      exact g_sub (L' := [(0, .int x0), (1, .ref (r qx1)), (2, .ref (r qx2)), (3, .int y0)]) [1, 2, 3, 0] rfl (b37 σ x0 qx1 qx2 y0 inv kp z_y0 hqx1 hqx2)
    · -- not taken at 28
      refine g_iload_n hF d_X2_combine_31 rfl 1 rfl ?_
      refine g_bipush hF (v := 44) d_X2_combine_32 (by decide) ?_
      refine g_icmp_ne (yv := 44) hF 41 d_X2_combine_34 (by decide) rfl (by decide) (fun c35_34 => ?_) (fun c35_34 => ?_)
      · -- taken at 34
        refine g_iconst hF (v := 0) d_X2_combine_41 (by decide) ?_
        exact g_sub (L' := [(0, .int x0), (1, .ref (r qx1)), (2, .ref (r qx2)), (3, .int y0)]) [1, 2, 3, 0] rfl (b42 σ x0 qx1 qx2 y0 (0 : Int32) inv kp z_y0 (Or.inl rfl) hqx1 hqx2)
      · -- not taken at 34
        exact g_sub (L' := [(0, .int x0), (1, .ref (r qx1)), (2, .ref (r qx2)), (3, .int y0)]) [1, 2, 3, 0] rfl (b37 σ x0 qx1 qx2 y0 inv kp z_y0 hqx1 hqx2)
  have b23 : ∀ (σ : St) (x0 : Int32) (qx1 : Nat) (qx2 : Nat) , Inv σ → Keep [] [] σ0 σ → isOp qx1 → isOp qx2 → G SC r X σ Z0 [] [(0, .int x0), (1, .ref (r qx1)), (2, .ref (r qx2))] [] 23 := by
    intro σ x0 qx1 qx2 inv kp hqx1 hqx2
    refine g_iconst hF (v := 0) d_X2_combine_23 (by decide) ?_
    exact b24 σ x0 qx1 qx2 (0 : Int32) inv kp (Or.inl rfl) hqx1 hqx2
  have b12 : ∀ (σ : St) (x0 : Int32) (qx1 : Nat) (qx2 : Nat) , Inv σ → Keep [] [] σ0 σ → isOp qx1 → isOp qx2 → G SC r X σ Z0 [] [(0, .int x0), (1, .ref (r qx1)), (2, .ref (r qx2))] [] 12 := by
    intro σ x0 qx1 qx2 inv kp hqx1 hqx2
    refine g_aload_n hF d_X2_combine_12 rfl 2 rfl ?_
    refine g_getN hF 8 (obC_op hqx2) (by decide) nm_418 (fval_op hqx2) d_X2_combine_13 ?_
    refine g_any (fun v36 => ?_)
    refine g_if_ne hF 23 d_X2_combine_16 (by decide) rfl (fun c37_16 => ?_) (fun c37_16 => ?_)
    · -- taken at 16
      exact b23 σ x0 qx1 qx2 inv kp hqx1 hqx2
    · -- not taken at 16
      refine g_iconst hF (v := 1) d_X2_combine_19 (by decide) ?_
      refine g_goto hF 24 d_X2_combine_20 (by decide) ?_
      exact b24 σ x0 qx1 qx2 (1 : Int32) inv kp (Or.inr rfl) hqx1 hqx2
  have kp : Keep [] [] σ0 σ0 := keep_rf
  refine g_iload_n hF d_X2_combine_0 rfl 0 rfl ?_
  refine g_bipush hF (v := 46) d_X2_combine_1 (by decide) ?_
  refine g_icmp_eq (yv := 46) hF 12 d_X2_combine_3 (by decide) rfl (by decide) (fun c38_3 => ?_) (fun c38_3 => ?_)
  · -- taken at 3
    exact b12 σ0 a0 qa1 qa2 i0 kp hqa1 hqa2
  · -- not taken at 3
    refine g_iload_n hF d_X2_combine_6 rfl 0 rfl ?_
    refine g_bipush hF (v := 47) d_X2_combine_7 (by decide) ?_
    refine g_icmp_ne (yv := 47) hF 23 d_X2_combine_9 (by decide) rfl (by decide) (fun c39_9 => ?_) (fun c39_9 => ?_)
    · -- taken at 9
      exact b23 σ0 a0 qa1 qa2 i0 kp hqa1 hqa2
    · -- not taken at 9
      exact b12 σ0 a0 qa1 qa2 i0 kp hqa1 hqa2
set_option maxHeartbeats 4000000 in
set_option maxRecDepth 100000 in
theorem c_X2_assign (a : Nat → Nat) (g : Nat → Nat → Int32) (r : Nat → Nat) (σ0 : St) (a1 : Int32) (i0 : Inv σ0) (l : Launch) (D : va_G) (cy : Nat → ClassId) : Ct l D cy SC r (EC a g) y_X2_assign (Cond.code y_X2_assign b_X2_assign 7 none) 3 [.ref (r 7), .int a1] σ0 Z0 [] (QV (fun σ9 => (Inv σ9 ∧ Keep [(4, 1), (6, 3), (6, 4), (7, 7)] [24] σ0 σ9))) QF := by
  refine Ct_of (EC_ok a g) (by decide) (Nat.le_of_ble_eq_true rfl) (by decide) (fun X hnn hF => ?_)
  show G SC r X σ0 Z0 [] [(0, .ref (r 7)), (1, .int a1)] [] 0
  have b179 : ∀ (σ : St) (x1 : Int32) (x2 : Int32) (qx3 : Nat) (qx4 : Nat) (x5 : Int32) (x6 : Int32) , Inv σ → Keep [(4, 1), (6, 3), (6, 4), (7, 7)] [24] σ0 σ → x5 = 0 ∨ x5 = 1 → x6 = 0 ∨ x6 = 1 → isOp qx3 → isOp qx4 → G SC r X σ Z0 [] [(0, .ref (r 7)), (1, .int x1), (2, .int x2), (3, .ref (r qx3)), (4, .ref (r qx4)), (5, .int x5), (6, .int x6)] [] 179 := by
    intro σ x1 x2 qx3 qx4 x5 x6 inv kp z_x5 z_x6 hqx3 hqx4
    refine g_aload hF d_X2_assign_179 4 rfl ?_
    refine g_aload hF d_X2_assign_181 4 rfl ?_
    refine g_getN hF 1 (obC_op hqx4) (by decide) nm_402 (fval_op hqx4) d_X2_assign_183 ?_
    refine g_any (fun v1 => ?_)
    refine g_iconst hF (v := 0) d_X2_assign_186 (by decide) ?_
    refine g_callVN (As := [.int v1, .int 0]) (rest := []) hF (c_X6_become a g r σ v1 (0 : Int32) qx4 hqx4 inv) (Nat.le_of_ble_eq_true rfl) mV_X6_become nm_1100 (recv_ob (obC_op hqx4)) rfl rfl (Nat.le_of_ble_eq_true rfl) d_X2_assign_187 (k_v (fun σ2 ⟨iσ2, ik2⟩ => ?_))
    have kp : Keep [(4, 1), (6, 3), (6, 4), (7, 7)] [24] σ0 σ2 := keep_c kp ik2 (by decide) (by decide)
    refine g_aload_n hF d_X2_assign_190 rfl 0 rfl ?_
    refine g_aload hF d_X2_assign_191 4 rfl ?_
    refine g_iconst hF (v := 1) d_X2_assign_193 (by decide) ?_
    refine g_aload hF d_X2_assign_194 4 rfl ?_
    refine g_getN hF 2 (obC_op hqx4) (by decide) nm_404 (fval_op hqx4) d_X2_assign_196 ?_
    refine g_any (fun v3 => ?_)
    refine g_aload_n hF d_X2_assign_199 rfl 3 rfl ?_
    refine g_getN hF 2 (obC_op hqx3) (by decide) nm_404 (fval_op hqx3) d_X2_assign_200 ?_
    refine g_any (fun v4 => ?_)
    refine g_mmax hF (Nat.le_of_ble_eq_true rfl) m_1130 m_1131 m_23 m_1132 (Nat.le_of_ble_eq_true rfl) d_X2_assign_203 ?_
    refine g_nm (fun v6 ev6 => ?_)
    have mv6 := s_max ev6
    refine g_iadd hF d_X2_assign_206 ?_
    refine g_iload_n hF d_X2_assign_207 rfl 1 rfl ?_
    refine g_callV (As := [.ref (r qx4), .int (1 + v6), .int x1]) (rest := []) hF (c_X2_raise a g r σ2 (1 + v6) x1 qx4 hqx4 iσ2) (Nat.le_of_ble_eq_true rfl) mV_X2_raise m_1186 (recv_ob obC_7) rfl rfl (Nat.le_of_ble_eq_true rfl) d_X2_assign_208 (k_v (fun σ7 ⟨iσ7, ik7⟩ => ?_)) (fun _ _ _ h => h.elim)
    have kp : Keep [(4, 1), (6, 3), (6, 4), (7, 7)] [24] σ0 σ7 := keep_c kp ik7 (by decide) (by decide)
    exact g_vret hF rfl d_X2_assign_211 ⟨rfl, rfl, rfl, ⟨iσ7, kp⟩⟩
  have b168 : ∀ (σ : St) (x1 : Int32) (x2 : Int32) (qx3 : Nat) (qx4 : Nat) (x5 : Int32) (x6 : Int32) (y1 : Int32) , Inv σ → Keep [(4, 1), (6, 3), (6, 4), (7, 7)] [24] σ0 σ → x5 = 0 ∨ x5 = 1 → x6 = 0 ∨ x6 = 1 → isOp qx3 → isOp qx4 → G SC r X σ Z0 [] [(0, .ref (r 7)), (1, .int x1), (2, .int x2), (3, .ref (r qx3)), (4, .ref (r qx4)), (5, .int x5), (6, .int x6)] [.int y1, .ref (r 4)] 168 := by
    intro σ x1 x2 qx3 qx4 x5 x6 y1 inv kp z_x5 z_x6 hqx3 hqx4
    refine g_aload hF d_X2_assign_168 4 rfl ?_
    refine g_getN hF 4 (obC_op hqx4) (by decide) nm_408 (fval_op hqx4) d_X2_assign_170 ?_
    refine g_any (fun v8 => ?_)
    refine g_iconst hF (v := 0) d_X2_assign_173 (by decide) ?_
    refine g_iconst hF (v := 0) d_X2_assign_174 (by decide) ?_
    refine g_callVN (As := [.int y1, .int v8, .int 0, .int 0]) (rest := []) hF (c_X0_emit a g r σ y1 v8 (0 : Int32) (0 : Int32) inv) (Nat.le_of_ble_eq_true rfl) mV_X0_emit nm_1071 (recv_ob obC_4) rfl rfl (Nat.le_of_ble_eq_true rfl) d_X2_assign_175 (k_i (fun r9 σ9 ⟨iσ9, ik9⟩ => ?_))
    have kp : Keep [(4, 1), (6, 3), (6, 4), (7, 7)] [24] σ0 σ9 := keep_c kp ik9 (by decide) (by decide)
    refine g_pop hF d_X2_assign_178 rfl ?_
    exact b179 σ9 x1 x2 qx3 qx4 x5 x6 iσ9 kp z_x5 z_x6 hqx3 hqx4
  have b119 : ∀ (σ : St) (x1 : Int32) (x2 : Int32) (qx3 : Nat) (qx4 : Nat) (x5 : Int32) (x6 : Int32) , Inv σ → Keep [(4, 1), (6, 3), (6, 4), (7, 7)] [24] σ0 σ → x5 = 0 ∨ x5 = 1 → x6 = 0 ∨ x6 = 1 → isOp qx3 → isOp qx4 → G SC r X σ Z0 [] [(0, .ref (r 7)), (1, .int x1), (2, .int x2), (3, .ref (r qx3)), (4, .ref (r qx4)), (5, .int x5), (6, .int x6)] [] 119 := by
    intro σ x1 x2 qx3 qx4 x5 x6 inv kp z_x5 z_x6 hqx3 hqx4
    refine g_aload hF d_X2_assign_119 4 rfl ?_
    refine g_getN hF 0 (obC_op hqx4) (by decide) nm_399 (fval_op hqx4) d_X2_assign_121 ?_
    refine g_any (fun v10 => ?_)
    refine g_iconst hF (v := 3) d_X2_assign_124 (by decide) ?_
    refine g_icmp_ne (yv := 3) hF 148 d_X2_assign_125 (by decide) rfl (by decide) (fun c11_125 => ?_) (fun c11_125 => ?_)
    · -- taken at 125
      refine g_aload_n hF d_X2_assign_148 rfl 0 rfl ?_
      refine g_get (v := .ref (r 4)) hF 4 obC_7 (by decide) m_461 rfl d_X2_assign_149 ?_
      refine g_aload hF d_X2_assign_152 4 rfl ?_
      refine g_getN hF 0 (obC_op hqx4) (by decide) nm_399 (fval_op hqx4) d_X2_assign_154 ?_
      refine g_any (fun v12 => ?_)
      refine g_iconst hF (v := 1) d_X2_assign_157 (by decide) ?_
      refine g_icmp_ne (yv := 1) hF 166 d_X2_assign_158 (by decide) rfl (by decide) (fun c13_158 => ?_) (fun c13_158 => ?_)
      · -- taken at 158
        refine g_bipush hF (v := 6) d_X2_assign_166 (by decide) ?_
        exact b168 σ x1 x2 qx3 qx4 x5 x6 (6 : Int32) inv kp z_x5 z_x6 hqx3 hqx4
      · -- not taken at 158
        refine g_bipush hF (v := 9) d_X2_assign_161 (by decide) ?_
        refine g_goto hF 168 d_X2_assign_163 (by decide) ?_
        exact b168 σ x1 x2 qx3 qx4 x5 x6 (9 : Int32) inv kp z_x5 z_x6 hqx3 hqx4
    · -- not taken at 125
      refine g_aload_n hF d_X2_assign_128 rfl 0 rfl ?_
      refine g_get (v := .ref (r 4)) hF 4 obC_7 (by decide) m_461 rfl d_X2_assign_129 ?_
      refine g_bipush hF (v := 19) d_X2_assign_132 (by decide) ?_
      refine g_aload_n hF d_X2_assign_134 rfl 0 rfl ?_
      refine g_iload_n hF d_X2_assign_135 rfl 1 rfl ?_
      refine g_callV (As := [.int x1]) (rest := [.int 19, .ref (r 4)]) hF (c_X2_lineOf a g r σ x1 inv) (Nat.le_of_ble_eq_true rfl) mV_X2_lineOf m_1182 (recv_ob obC_7) rfl rfl (Nat.le_of_ble_eq_true rfl) d_X2_assign_136 (k_ro (fun r14 => ?_)) (fun _ _ _ h => h.elim)
      refine g_iconst hF (v := 0) d_X2_assign_139 (by decide) ?_
      refine g_iconst hF (v := 0) d_X2_assign_140 (by decide) ?_
      refine g_callVN (As := [.int 19, .int r14, .int 0, .int 0]) (rest := []) hF (c_X0_emit a g r σ (19 : Int32) r14 (0 : Int32) (0 : Int32) inv) (Nat.le_of_ble_eq_true rfl) mV_X0_emit nm_1071 (recv_ob obC_4) rfl rfl (Nat.le_of_ble_eq_true rfl) d_X2_assign_141 (k_i (fun r15 σ15 ⟨iσ15, ik15⟩ => ?_))
      have kp : Keep [(4, 1), (6, 3), (6, 4), (7, 7)] [24] σ0 σ15 := keep_c kp ik15 (by decide) (by decide)
      refine g_pop hF d_X2_assign_144 rfl ?_
      refine g_goto hF 179 d_X2_assign_145 (by decide) ?_
      exact b179 σ15 x1 x2 qx3 qx4 x5 x6 iσ15 kp z_x5 z_x6 hqx3 hqx4
  have b99 : ∀ (σ : St) (x1 : Int32) (x2 : Int32) (qx3 : Nat) (qx4 : Nat) (x5 : Int32) (x6 : Int32) , Inv σ → Keep [(4, 1), (6, 3), (6, 4), (7, 7)] [24] σ0 σ → x5 = 0 ∨ x5 = 1 → x6 = 0 ∨ x6 = 1 → isOp qx3 → isOp qx4 → G SC r X σ Z0 [] [(0, .ref (r 7)), (1, .int x1), (2, .int x2), (3, .ref (r qx3)), (4, .ref (r qx4)), (5, .int x5), (6, .int x6)] [] 99 := by
    intro σ x1 x2 qx3 qx4 x5 x6 inv kp z_x5 z_x6 hqx3 hqx4
    refine g_iload_n hF d_X2_assign_99 rfl 2 rfl ?_
    refine g_bipush hF (v := 30) d_X2_assign_100 (by decide) ?_
    refine g_icmp_eq (yv := 30) hF 119 d_X2_assign_102 (by decide) rfl (by decide) (fun c16_102 => ?_) (fun c16_102 => ?_)
    · -- taken at 102
      exact b119 σ x1 x2 qx3 qx4 x5 x6 inv kp z_x5 z_x6 hqx3 hqx4
    · -- not taken at 102
      refine g_aload_n hF d_X2_assign_105 rfl 0 rfl ?_
      refine g_iload_n hF d_X2_assign_106 rfl 2 rfl ?_
      refine g_bipush hF (v := 10) d_X2_assign_107 (by decide) ?_
      refine g_iadd hF d_X2_assign_109 ?_
      refine g_iconst hF (v := 0) d_X2_assign_110 (by decide) ?_
      refine g_aload_n hF d_X2_assign_111 rfl 0 rfl ?_
      refine g_iload_n hF d_X2_assign_112 rfl 1 rfl ?_
      refine g_callV (As := [.int x1]) (rest := [.int 0, .int (x2 + 10), .ref (r 7)]) hF (c_X2_lineOf a g r σ x1 inv) (Nat.le_of_ble_eq_true rfl) mV_X2_lineOf m_1182 (recv_ob obC_7) rfl rfl (Nat.le_of_ble_eq_true rfl) d_X2_assign_113 (k_ro (fun r17 => ?_)) (fun _ _ _ h => h.elim)
      refine g_callV (As := [.int (x2 + 10), .int 0, .int r17]) (rest := []) hF (c_X2_operate a g r σ (x2 + 10) (0 : Int32) r17 inv (Or.inl rfl)) (Nat.le_of_ble_eq_true rfl) mV_X2_operate m_1215 (recv_ob obC_7) rfl rfl (Nat.le_of_ble_eq_true rfl) d_X2_assign_116 (k_v (fun σ18 ⟨iσ18, ik18⟩ => ?_)) (fun _ _ _ h => h.elim)
      have kp : Keep [(4, 1), (6, 3), (6, 4), (7, 7)] [24] σ0 σ18 := keep_c kp ik18 (by decide) (by decide)
      exact b119 σ18 x1 x2 qx3 qx4 x5 x6 iσ18 kp z_x5 z_x6 hqx3 hqx4
  have b94 : ∀ (σ : St) (x1 : Int32) (x2 : Int32) (qx3 : Nat) (qx4 : Nat) (x5 : Int32) (x6 : Int32) , Inv σ → Keep [(4, 1), (6, 3), (6, 4), (7, 7)] [24] σ0 σ → x5 = 0 ∨ x5 = 1 → x6 = 0 ∨ x6 = 1 → isOp qx3 → isOp qx4 → G SC r X σ Z0 [] [(0, .ref (r 7)), (1, .int x1), (2, .int x2), (3, .ref (r qx3)), (4, .ref (r qx4)), (5, .int x5), (6, .int x6)] [] 94 := by
    intro σ x1 x2 qx3 qx4 x5 x6 inv kp z_x5 z_x6 hqx3 hqx4
    refine g_aload_n hF d_X2_assign_94 rfl 0 rfl ?_
    refine g_iload_n hF d_X2_assign_95 rfl 1 rfl ?_
    refine g_callV (As := [.int x1]) (rest := []) hF (c_X2_refuse a g r σ x1 inv) (Nat.le_of_ble_eq_true rfl) mV_X2_refuse m_1126 (recv_ob obC_7) rfl rfl (Nat.le_of_ble_eq_true rfl) d_X2_assign_96 (k_v (fun σ19 ⟨iσ19, ik19⟩ => ?_)) (fun _ _ _ h => h.elim)
    have kp : Keep [(4, 1), (6, 3), (6, 4), (7, 7)] [24] σ0 σ19 := keep_c kp ik19 (by decide) (by decide)
    exact b99 σ19 x1 x2 qx3 qx4 x5 x6 iσ19 kp z_x5 z_x6 hqx3 hqx4
  have b79 : ∀ (σ : St) (x1 : Int32) (x2 : Int32) (qx3 : Nat) (qx4 : Nat) (x5 : Int32) (y0 : Int32) , Inv σ → Keep [(4, 1), (6, 3), (6, 4), (7, 7)] [24] σ0 σ → x5 = 0 ∨ x5 = 1 → y0 = 0 ∨ y0 = 1 → isOp qx3 → isOp qx4 → G SC r X σ Z0 [] [(0, .ref (r 7)), (1, .int x1), (2, .int x2), (3, .ref (r qx3)), (4, .ref (r qx4)), (5, .int x5)] [.int y0] 79 := by
    intro σ x1 x2 qx3 qx4 x5 y0 inv kp z_x5 z_y0 hqx3 hqx4
    refine g_istore hF [(6, .int y0), (0, .ref (r 7)), (1, .int x1), (2, .int x2), (3, .ref (r qx3)), (4, .ref (r qx4)), (5, .int x5)] d_X2_assign_79 hnn (by decide) rfl ?_
    refine g_aload hF d_X2_assign_81 5 rfl ?_
    refine g_callVN (As := []) (rest := []) hF (c_X6_isPlace a g r σ qx4 hqx4 inv) (Nat.le_of_ble_eq_true rfl) mV_X6_isPlace nm_1168 (recv_ob (obC_op hqx4)) rfl rfl (Nat.le_of_ble_eq_true rfl) d_X2_assign_83 (k_roz (fun r20 hz20 => ?_))
    refine g_if_eq hF 94 d_X2_assign_86 (by decide) rfl (fun c21_86 => ?_) (fun c21_86 => ?_)
    · -- taken at 86
      exact g_sub (L' := [(0, .ref (r 7)), (1, .int x1), (2, .int x2), (3, .ref (r qx3)), (4, .ref (r qx4)), (5, .int x5), (6, .int y0)]) [1, 2, 3, 4, 5, 6, 0] rfl (b94 σ x1 x2 qx3 qx4 x5 y0 inv kp z_x5 z_y0 hqx3 hqx4)
    · -- not taken at 86
      refine g_iload hF d_X2_assign_89 0 rfl ?_
      refine g_if_ne hF 99 d_X2_assign_91 (by decide) rfl (fun c22_91 => ?_) (fun c22_91 => ?_)
      · -- taken at 91
        exact g_sub (L' := [(0, .ref (r 7)), (1, .int x1), (2, .int x2), (3, .ref (r qx3)), (4, .ref (r qx4)), (5, .int x5), (6, .int y0)]) [1, 2, 3, 4, 5, 6, 0] rfl (b99 σ x1 x2 qx3 qx4 x5 y0 inv kp z_x5 z_y0 hqx3 hqx4)
      · -- not taken at 91
        exact g_sub (L' := [(0, .ref (r 7)), (1, .int x1), (2, .int x2), (3, .ref (r qx3)), (4, .ref (r qx4)), (5, .int x5), (6, .int y0)]) [1, 2, 3, 4, 5, 6, 0] rfl (b94 σ x1 x2 qx3 qx4 x5 y0 inv kp z_x5 z_y0 hqx3 hqx4)
  have b78 : ∀ (σ : St) (x1 : Int32) (x2 : Int32) (qx3 : Nat) (qx4 : Nat) (x5 : Int32) , Inv σ → Keep [(4, 1), (6, 3), (6, 4), (7, 7)] [24] σ0 σ → x5 = 0 ∨ x5 = 1 → isOp qx3 → isOp qx4 → G SC r X σ Z0 [] [(0, .ref (r 7)), (1, .int x1), (2, .int x2), (3, .ref (r qx3)), (4, .ref (r qx4)), (5, .int x5)] [] 78 := by
    intro σ x1 x2 qx3 qx4 x5 inv kp z_x5 hqx3 hqx4
    refine g_iconst hF (v := 0) d_X2_assign_78 (by decide) ?_
    exact b79 σ x1 x2 qx3 qx4 x5 (0 : Int32) inv kp z_x5 (Or.inl rfl) hqx3 hqx4
  have b74 : ∀ (σ : St) (x1 : Int32) (x2 : Int32) (qx3 : Nat) (qx4 : Nat) (x5 : Int32) , Inv σ → Keep [(4, 1), (6, 3), (6, 4), (7, 7)] [24] σ0 σ → x5 = 0 ∨ x5 = 1 → isOp qx3 → isOp qx4 → G SC r X σ Z0 [] [(0, .ref (r 7)), (1, .int x1), (2, .int x2), (3, .ref (r qx3)), (4, .ref (r qx4)), (5, .int x5)] [] 74 := by
    intro σ x1 x2 qx3 qx4 x5 inv kp z_x5 hqx3 hqx4
    refine g_iconst hF (v := 1) d_X2_assign_74 (by decide) ?_
    refine g_goto hF 79 d_X2_assign_75 (by decide) ?_
    exact b79 σ x1 x2 qx3 qx4 x5 (1 : Int32) inv kp z_x5 (Or.inr rfl) hqx3 hqx4
  have b34 : ∀ (σ : St) (x1 : Int32) (x2 : Int32) (qx3 : Nat) (qx4 : Nat) (y0 : Int32) , Inv σ → Keep [(4, 1), (6, 3), (6, 4), (7, 7)] [24] σ0 σ → y0 = 0 ∨ y0 = 1 → isOp qx3 → isOp qx4 → G SC r X σ Z0 [] [(0, .ref (r 7)), (1, .int x1), (2, .int x2), (3, .ref (r qx3)), (4, .ref (r qx4))] [.int y0] 34 := by
    intro σ x1 x2 qx3 qx4 y0 inv kp z_y0 hqx3 hqx4
    refine g_istore hF [(5, .int y0), (0, .ref (r 7)), (1, .int x1), (2, .int x2), (3, .ref (r qx3)), (4, .ref (r qx4))] d_X2_assign_34 hnn (by decide) rfl ?_
    refine g_iload_n hF d_X2_assign_36 rfl 3 rfl ?_
    refine g_bipush hF (v := 30) d_X2_assign_37 (by decide) ?_
    refine g_icmp_ne (yv := 30) hF 54 d_X2_assign_39 (by decide) rfl (by decide) (fun c23_39 => ?_) (fun c23_39 => ?_)
    · -- taken at 39
      refine g_aload_n hF d_X2_assign_54 rfl 4 rfl ?_
      refine g_getN hF 1 (obC_op hqx3) (by decide) nm_402 (fval_op hqx3) d_X2_assign_55 ?_
      refine g_any (fun v24 => ?_)
      refine g_if_ne hF 78 d_X2_assign_58 (by decide) rfl (fun c25_58 => ?_) (fun c25_58 => ?_)
      · -- taken at 58
        exact g_sub (L' := [(0, .ref (r 7)), (1, .int x1), (2, .int x2), (3, .ref (r qx3)), (4, .ref (r qx4)), (5, .int y0)]) [1, 2, 3, 4, 5, 0] rfl (b78 σ x1 x2 qx3 qx4 y0 inv kp z_y0 hqx3 hqx4)
      · -- not taken at 58
        refine g_iload hF d_X2_assign_61 0 rfl ?_
        refine g_if_ne hF 74 d_X2_assign_63 (by decide) rfl (fun c26_63 => ?_) (fun c26_63 => ?_)
        · -- taken at 63
          exact g_sub (L' := [(0, .ref (r 7)), (1, .int x1), (2, .int x2), (3, .ref (r qx3)), (4, .ref (r qx4)), (5, .int y0)]) [1, 2, 3, 4, 5, 0] rfl (b74 σ x1 x2 qx3 qx4 y0 inv kp z_y0 hqx3 hqx4)
        · -- not taken at 63
          refine g_aload hF d_X2_assign_66 5 rfl ?_
          refine g_getN hF 1 (obC_op hqx4) (by decide) nm_402 (fval_op hqx4) d_X2_assign_68 ?_
          refine g_any (fun v27 => ?_)
          refine g_if_ne hF 78 d_X2_assign_71 (by decide) rfl (fun c28_71 => ?_) (fun c28_71 => ?_)
          · -- taken at 71
            exact g_sub (L' := [(0, .ref (r 7)), (1, .int x1), (2, .int x2), (3, .ref (r qx3)), (4, .ref (r qx4)), (5, .int y0)]) [1, 2, 3, 4, 5, 0] rfl (b78 σ x1 x2 qx3 qx4 y0 inv kp z_y0 hqx3 hqx4)
          · -- not taken at 71
            exact g_sub (L' := [(0, .ref (r 7)), (1, .int x1), (2, .int x2), (3, .ref (r qx3)), (4, .ref (r qx4)), (5, .int y0)]) [1, 2, 3, 4, 5, 0] rfl (b74 σ x1 x2 qx3 qx4 y0 inv kp z_y0 hqx3 hqx4)
    · -- not taken at 39
      refine g_aload_n hF d_X2_assign_42 rfl 4 rfl ?_
      refine g_aload hF d_X2_assign_43 5 rfl ?_
      refine g_getN hF 1 (obC_op hqx4) (by decide) nm_402 (fval_op hqx4) d_X2_assign_45 ?_
      refine g_any (fun v29 => ?_)
      refine g_callVN (As := [.int v29]) (rest := []) hF (c_X6_fits a g r σ v29 qx3 hqx3 inv) (Nat.le_of_ble_eq_true rfl) mV_X6_fits nm_1174 (recv_ob (obC_op hqx3)) rfl rfl (Nat.le_of_ble_eq_true rfl) d_X2_assign_48 (k_roz (fun r30 hz30 => ?_))
      refine g_goto hF 79 d_X2_assign_51 (by decide) ?_
      exact g_sub (L' := [(0, .ref (r 7)), (1, .int x1), (2, .int x2), (3, .ref (r qx3)), (4, .ref (r qx4)), (5, .int y0)]) [1, 2, 3, 4, 5, 0] rfl (b79 σ x1 x2 qx3 qx4 y0 r30 inv kp z_y0 hz30 hqx3 hqx4)
  have b29 : ∀ (σ : St) (x1 : Int32) (x2 : Int32) (qx3 : Nat) (qx4 : Nat) , Inv σ → Keep [(4, 1), (6, 3), (6, 4), (7, 7)] [24] σ0 σ → isOp qx3 → isOp qx4 → G SC r X σ Z0 [] [(0, .ref (r 7)), (1, .int x1), (2, .int x2), (3, .ref (r qx3)), (4, .ref (r qx4))] [] 29 := by
    intro σ x1 x2 qx3 qx4 inv kp hqx3 hqx4
    refine g_iconst hF (v := 1) d_X2_assign_29 (by decide) ?_
    refine g_goto hF 34 d_X2_assign_30 (by decide) ?_
    exact b34 σ x1 x2 qx3 qx4 (1 : Int32) inv kp (Or.inr rfl) hqx3 hqx4
  have kp : Keep [(4, 1), (6, 3), (6, 4), (7, 7)] [24] σ0 σ0 := keep_rf
  refine g_aload_n hF d_X2_assign_0 rfl 0 rfl ?_
  refine g_iload_n hF d_X2_assign_1 rfl 1 rfl ?_
  refine g_callV (As := [.int a1]) (rest := []) hF (c_X2_kindOf a g r σ0 a1 i0) (Nat.le_of_ble_eq_true rfl) mV_X2_kindOf m_1194 (recv_ob obC_7) rfl rfl (Nat.le_of_ble_eq_true rfl) d_X2_assign_2 (k_ro (fun r31 => ?_)) (fun _ _ _ h => h.elim)
  refine g_istore_n hF [(2, .int r31), (0, .ref (r 7)), (1, .int a1)] d_X2_assign_5 rfl hnn (by decide) rfl ?_
  refine g_aload_n hF d_X2_assign_6 rfl 1 rfl ?_
  refine g_callV (As := []) (rest := []) hF (c_X2_pop a g r σ0 i0) (Nat.le_of_ble_eq_true rfl) mV_X2_pop m_1156 (recv_ob obC_7) rfl rfl (Nat.le_of_ble_eq_true rfl) d_X2_assign_7 (k_a (fun q32 σ32 ⟨hq32, iσ32, ik32⟩ => ?_)) (fun _ _ _ h => h.elim)
  have kp : Keep [(4, 1), (6, 3), (6, 4), (7, 7)] [24] σ0 σ32 := keep_c kp ik32 (by decide) (by decide)
  refine g_astore_n hF [(3, .ref (r q32)), (2, .int r31), (0, .ref (r 7)), (1, .int a1)] d_X2_assign_10 rfl hnn (by decide) rfl ?_
  refine g_aload_n hF d_X2_assign_11 rfl 2 rfl ?_
  refine g_callV (As := []) (rest := []) hF (c_X2_top a g r σ32 iσ32) (Nat.le_of_ble_eq_true rfl) mV_X2_top m_1160 (recv_ob obC_7) rfl rfl (Nat.le_of_ble_eq_true rfl) d_X2_assign_12 (k_roa (fun q33 hq33 => ?_)) (fun _ _ _ h => h.elim)
  refine g_astore hF [(4, .ref (r q33)), (3, .ref (r q32)), (2, .int r31), (0, .ref (r 7)), (1, .int a1)] d_X2_assign_15 hnn (by decide) rfl ?_
  refine g_iload_n hF d_X2_assign_17 rfl 2 rfl ?_
  refine g_bipush hF (v := 33) d_X2_assign_18 (by decide) ?_
  refine g_icmp_eq (yv := 33) hF 29 d_X2_assign_20 (by decide) rfl (by decide) (fun c34_20 => ?_) (fun c34_20 => ?_)
  · -- taken at 20
    exact g_sub (L' := [(0, .ref (r 7)), (1, .int a1), (2, .int r31), (3, .ref (r q32)), (4, .ref (r q33))]) [3, 4, 2, 1, 0] rfl (b29 σ32 a1 r31 q32 q33 iσ32 kp hq32 hq33)
  · -- not taken at 20
    refine g_iload_n hF d_X2_assign_23 rfl 2 rfl ?_
    refine g_bipush hF (v := 34) d_X2_assign_24 (by decide) ?_
    refine g_icmp_ne (yv := 34) hF 33 d_X2_assign_26 (by decide) rfl (by decide) (fun c35_26 => ?_) (fun c35_26 => ?_)
    · -- taken at 26
      refine g_iconst hF (v := 0) d_X2_assign_33 (by decide) ?_
      exact g_sub (L' := [(0, .ref (r 7)), (1, .int a1), (2, .int r31), (3, .ref (r q32)), (4, .ref (r q33))]) [3, 4, 2, 1, 0] rfl (b34 σ32 a1 r31 q32 q33 (0 : Int32) iσ32 kp (Or.inl rfl) hq32 hq33)
    · -- not taken at 26
      exact g_sub (L' := [(0, .ref (r 7)), (1, .int a1), (2, .int r31), (3, .ref (r q32)), (4, .ref (r q33))]) [3, 4, 2, 1, 0] rfl (b29 σ32 a1 r31 q32 q33 iσ32 kp hq32 hq33)
set_option maxHeartbeats 4000000 in
set_option maxRecDepth 100000 in
theorem c_X2_index (a : Nat → Nat) (g : Nat → Nat → Int32) (r : Nat → Nat) (σ0 : St) (a1 : Int32) (i0 : Inv σ0) (l : Launch) (D : va_G) (cy : Nat → ClassId) : Ct l D cy SC r (EC a g) y_X2_index (Cond.code y_X2_index b_X2_index 4 none) 3 [.ref (r 7), .int a1] σ0 Z0 [] (QV (fun σ9 => (Inv σ9 ∧ Keep [(4, 1), (6, 3), (6, 4), (7, 7)] [24] σ0 σ9))) QF := by
  refine Ct_of (EC_ok a g) (by decide) (Nat.le_of_ble_eq_true rfl) (by decide) (fun X hnn hF => ?_)
  show G SC r X σ0 Z0 [] [(0, .ref (r 7)), (1, .int a1)] [] 0
  have kp : Keep [(4, 1), (6, 3), (6, 4), (7, 7)] [24] σ0 σ0 := keep_rf
  refine g_aload_n hF d_X2_index_0 rfl 0 rfl ?_
  refine g_callV (As := []) (rest := []) hF (c_X2_pop a g r σ0 i0) (Nat.le_of_ble_eq_true rfl) mV_X2_pop m_1156 (recv_ob obC_7) rfl rfl (Nat.le_of_ble_eq_true rfl) d_X2_index_1 (k_a (fun q1 σ1 ⟨hq1, iσ1, ik1⟩ => ?_)) (fun _ _ _ h => h.elim)
  have kp : Keep [(4, 1), (6, 3), (6, 4), (7, 7)] [24] σ0 σ1 := keep_c kp ik1 (by decide) (by decide)
  refine g_astore_n hF [(2, .ref (r q1)), (0, .ref (r 7)), (1, .int a1)] d_X2_index_4 rfl hnn (by decide) rfl ?_
  refine g_aload_n hF d_X2_index_5 rfl 1 rfl ?_
  refine g_callV (As := []) (rest := []) hF (c_X2_top a g r σ1 iσ1) (Nat.le_of_ble_eq_true rfl) mV_X2_top m_1160 (recv_ob obC_7) rfl rfl (Nat.le_of_ble_eq_true rfl) d_X2_index_6 (k_roa (fun q2 hq2 => ?_)) (fun _ _ _ h => h.elim)
  refine g_astore_n hF [(3, .ref (r q2)), (2, .ref (r q1)), (0, .ref (r 7)), (1, .int a1)] d_X2_index_9 rfl hnn (by decide) rfl ?_
  refine g_aload_n hF d_X2_index_10 rfl 1 rfl ?_
  refine g_getN hF 1 (obC_op hq1) (by decide) nm_402 (fval_op hq1) d_X2_index_11 ?_
  refine g_any (fun v3 => ?_)
  refine g_if_eq hF 22 d_X2_index_14 (by decide) rfl (fun c4_14 => ?_) (fun c4_14 => ?_)
  · -- taken at 14
    refine g_aload_n hF d_X2_index_22 rfl 2 rfl ?_
    refine g_get (v := .ref (r 4)) hF 4 obC_7 (by decide) m_461 rfl d_X2_index_23 ?_
    refine g_bipush hF (v := 43) d_X2_index_26 (by decide) ?_
    refine g_iconst hF (v := 0) d_X2_index_28 (by decide) ?_
    refine g_iconst hF (v := 0) d_X2_index_29 (by decide) ?_
    refine g_iconst hF (v := 0) d_X2_index_30 (by decide) ?_
    refine g_callVN (As := [.int 43, .int 0, .int 0, .int 0]) (rest := []) hF (c_X0_emit a g r σ1 (43 : Int32) (0 : Int32) (0 : Int32) (0 : Int32) iσ1) (Nat.le_of_ble_eq_true rfl) mV_X0_emit nm_1071 (recv_ob obC_4) rfl rfl (Nat.le_of_ble_eq_true rfl) d_X2_index_31 (k_i (fun r5 σ5 ⟨iσ5, ik5⟩ => ?_))
    have kp : Keep [(4, 1), (6, 3), (6, 4), (7, 7)] [24] σ0 σ5 := keep_c kp ik5 (by decide) (by decide)
    refine g_pop hF d_X2_index_34 rfl ?_
    refine g_aload_n hF d_X2_index_35 rfl 2 rfl ?_
    refine g_aload_n hF d_X2_index_36 rfl 0 rfl ?_
    refine g_iload_n hF d_X2_index_37 rfl 3 rfl ?_
    refine g_callV (As := [.ref (r q2), .int a1]) (rest := []) hF (c_X2_pointed a g r σ5 a1 q2 hq2 iσ5) (Nat.le_of_ble_eq_true rfl) mV_X2_pointed m_1250 (recv_ob obC_7) rfl rfl (Nat.le_of_ble_eq_true rfl) d_X2_index_38 (k_v (fun σ6 ⟨iσ6, ik6⟩ => ?_)) (fun _ _ _ h => h.elim)
    have kp : Keep [(4, 1), (6, 3), (6, 4), (7, 7)] [24] σ0 σ6 := keep_c kp ik6 (by decide) (by decide)
    refine g_aload_n hF d_X2_index_41 rfl 2 rfl ?_
    refine g_aload_n hF d_X2_index_42 rfl 0 rfl ?_
    refine g_iconst hF (v := 1) d_X2_index_43 (by decide) ?_
    refine g_aload_n hF d_X2_index_44 rfl 0 rfl ?_
    refine g_getN hF 2 (obC_op hq2) (by decide) nm_404 (fval_op hq2) d_X2_index_45 ?_
    refine g_any (fun v7 => ?_)
    refine g_aload_n hF d_X2_index_48 rfl 1 rfl ?_
    refine g_getN hF 2 (obC_op hq1) (by decide) nm_404 (fval_op hq1) d_X2_index_49 ?_
    refine g_any (fun v8 => ?_)
    refine g_mmax hF (Nat.le_of_ble_eq_true rfl) m_1130 m_1131 m_23 m_1132 (Nat.le_of_ble_eq_true rfl) d_X2_index_52 ?_
    refine g_nm (fun v10 ev10 => ?_)
    have mv10 := s_max ev10
    refine g_iadd hF d_X2_index_55 ?_
    refine g_iload_n hF d_X2_index_56 rfl 3 rfl ?_
    refine g_callV (As := [.ref (r q2), .int (1 + v10), .int a1]) (rest := []) hF (c_X2_raise a g r σ6 (1 + v10) a1 q2 hq2 iσ6) (Nat.le_of_ble_eq_true rfl) mV_X2_raise m_1186 (recv_ob obC_7) rfl rfl (Nat.le_of_ble_eq_true rfl) d_X2_index_57 (k_v (fun σ11 ⟨iσ11, ik11⟩ => ?_)) (fun _ _ _ h => h.elim)
    have kp : Keep [(4, 1), (6, 3), (6, 4), (7, 7)] [24] σ0 σ11 := keep_c kp ik11 (by decide) (by decide)
    exact g_vret hF rfl d_X2_index_60 ⟨rfl, rfl, rfl, ⟨iσ11, kp⟩⟩
  · -- not taken at 14
    refine g_aload_n hF d_X2_index_17 rfl 2 rfl ?_
    refine g_iload_n hF d_X2_index_18 rfl 3 rfl ?_
    refine g_callV (As := [.int a1]) (rest := []) hF (c_X2_refuse a g r σ1 a1 iσ1) (Nat.le_of_ble_eq_true rfl) mV_X2_refuse m_1126 (recv_ob obC_7) rfl rfl (Nat.le_of_ble_eq_true rfl) d_X2_index_19 (k_v (fun σ12 ⟨iσ12, ik12⟩ => ?_)) (fun _ _ _ h => h.elim)
    have kp : Keep [(4, 1), (6, 3), (6, 4), (7, 7)] [24] σ0 σ12 := keep_c kp ik12 (by decide) (by decide)
    refine g_aload_n hF d_X2_index_22 rfl 2 rfl ?_
    refine g_get (v := .ref (r 4)) hF 4 obC_7 (by decide) m_461 rfl d_X2_index_23 ?_
    refine g_bipush hF (v := 43) d_X2_index_26 (by decide) ?_
    refine g_iconst hF (v := 0) d_X2_index_28 (by decide) ?_
    refine g_iconst hF (v := 0) d_X2_index_29 (by decide) ?_
    refine g_iconst hF (v := 0) d_X2_index_30 (by decide) ?_
    refine g_callVN (As := [.int 43, .int 0, .int 0, .int 0]) (rest := []) hF (c_X0_emit a g r σ12 (43 : Int32) (0 : Int32) (0 : Int32) (0 : Int32) iσ12) (Nat.le_of_ble_eq_true rfl) mV_X0_emit nm_1071 (recv_ob obC_4) rfl rfl (Nat.le_of_ble_eq_true rfl) d_X2_index_31 (k_i (fun r13 σ13 ⟨iσ13, ik13⟩ => ?_))
    have kp : Keep [(4, 1), (6, 3), (6, 4), (7, 7)] [24] σ0 σ13 := keep_c kp ik13 (by decide) (by decide)
    refine g_pop hF d_X2_index_34 rfl ?_
    refine g_aload_n hF d_X2_index_35 rfl 2 rfl ?_
    refine g_aload_n hF d_X2_index_36 rfl 0 rfl ?_
    refine g_iload_n hF d_X2_index_37 rfl 3 rfl ?_
    refine g_callV (As := [.ref (r q2), .int a1]) (rest := []) hF (c_X2_pointed a g r σ13 a1 q2 hq2 iσ13) (Nat.le_of_ble_eq_true rfl) mV_X2_pointed m_1250 (recv_ob obC_7) rfl rfl (Nat.le_of_ble_eq_true rfl) d_X2_index_38 (k_v (fun σ14 ⟨iσ14, ik14⟩ => ?_)) (fun _ _ _ h => h.elim)
    have kp : Keep [(4, 1), (6, 3), (6, 4), (7, 7)] [24] σ0 σ14 := keep_c kp ik14 (by decide) (by decide)
    refine g_aload_n hF d_X2_index_41 rfl 2 rfl ?_
    refine g_aload_n hF d_X2_index_42 rfl 0 rfl ?_
    refine g_iconst hF (v := 1) d_X2_index_43 (by decide) ?_
    refine g_aload_n hF d_X2_index_44 rfl 0 rfl ?_
    refine g_getN hF 2 (obC_op hq2) (by decide) nm_404 (fval_op hq2) d_X2_index_45 ?_
    refine g_any (fun v15 => ?_)
    refine g_aload_n hF d_X2_index_48 rfl 1 rfl ?_
    refine g_getN hF 2 (obC_op hq1) (by decide) nm_404 (fval_op hq1) d_X2_index_49 ?_
    refine g_any (fun v16 => ?_)
    refine g_mmax hF (Nat.le_of_ble_eq_true rfl) m_1130 m_1131 m_23 m_1132 (Nat.le_of_ble_eq_true rfl) d_X2_index_52 ?_
    refine g_nm (fun v18 ev18 => ?_)
    have mv18 := s_max ev18
    refine g_iadd hF d_X2_index_55 ?_
    refine g_iload_n hF d_X2_index_56 rfl 3 rfl ?_
    refine g_callV (As := [.ref (r q2), .int (1 + v18), .int a1]) (rest := []) hF (c_X2_raise a g r σ14 (1 + v18) a1 q2 hq2 iσ14) (Nat.le_of_ble_eq_true rfl) mV_X2_raise m_1186 (recv_ob obC_7) rfl rfl (Nat.le_of_ble_eq_true rfl) d_X2_index_57 (k_v (fun σ19 ⟨iσ19, ik19⟩ => ?_)) (fun _ _ _ h => h.elim)
    have kp : Keep [(4, 1), (6, 3), (6, 4), (7, 7)] [24] σ0 σ19 := keep_c kp ik19 (by decide) (by decide)
    exact g_vret hF rfl d_X2_index_60 ⟨rfl, rfl, rfl, ⟨iσ19, kp⟩⟩
set_option maxHeartbeats 4000000 in
set_option maxRecDepth 100000 in
theorem c_X2_unary (a : Nat → Nat) (g : Nat → Nat → Int32) (r : Nat → Nat) (σ0 : St) (a1 : Int32) (i0 : Inv σ0) (l : Launch) (D : va_G) (cy : Nat → ClassId) : Ct l D cy SC r (EC a g) y_X2_unary (Cond.code y_X2_unary b_X2_unary 4 none) 4 [.ref (r 7), .int a1] σ0 Z0 [] (QV (fun σ9 => (Inv σ9 ∧ Keep [(4, 1), (6, 3), (6, 4)] [24, 43] σ0 σ9))) QF := by
  refine Ct_of (EC_ok a g) (by decide) (Nat.le_of_ble_eq_true rfl) (by decide) (fun X hnn hF => ?_)
  show G SC r X σ0 Z0 [] [(0, .ref (r 7)), (1, .int a1)] [] 0
  have kp : Keep [(4, 1), (6, 3), (6, 4)] [24, 43] σ0 σ0 := keep_rf
  refine g_aload_n hF d_X2_unary_0 rfl 0 rfl ?_
  refine g_iload_n hF d_X2_unary_1 rfl 1 rfl ?_
  refine g_callV (As := [.int a1]) (rest := []) hF (c_X2_kindOf a g r σ0 a1 i0) (Nat.le_of_ble_eq_true rfl) mV_X2_kindOf m_1194 (recv_ob obC_7) rfl rfl (Nat.le_of_ble_eq_true rfl) d_X2_unary_2 (k_ro (fun r1 => ?_)) (fun _ _ _ h => h.elim)
  refine g_istore_n hF [(2, .int r1), (0, .ref (r 7)), (1, .int a1)] d_X2_unary_5 rfl hnn (by decide) rfl ?_
  refine g_aload_n hF d_X2_unary_6 rfl 1 rfl ?_
  refine g_callV (As := []) (rest := []) hF (c_X2_top a g r σ0 i0) (Nat.le_of_ble_eq_true rfl) mV_X2_top m_1160 (recv_ob obC_7) rfl rfl (Nat.le_of_ble_eq_true rfl) d_X2_unary_7 (k_roa (fun q2 hq2 => ?_)) (fun _ _ _ h => h.elim)
  refine g_astore_n hF [(3, .ref (r q2)), (2, .int r1), (0, .ref (r 7)), (1, .int a1)] d_X2_unary_10 rfl hnn (by decide) rfl ?_
  refine g_iload_n hF d_X2_unary_11 rfl 1 rfl ?_
  refine g_bipush hF (v := 61) d_X2_unary_12 (by decide) ?_
  refine g_icmp_eq (yv := 61) hF 23 d_X2_unary_14 (by decide) rfl (by decide) (fun c3_14 => ?_) (fun c3_14 => ?_)
  · -- taken at 14
    refine g_aload_n hF d_X2_unary_23 rfl 2 rfl ?_
    refine g_aload_n hF d_X2_unary_24 rfl 0 rfl ?_
    refine g_iload_n hF d_X2_unary_25 rfl 3 rfl ?_
    refine g_iconst hF (v := 0) d_X2_unary_26 (by decide) ?_
    refine g_callV (As := [.ref (r q2), .int a1, .int 0]) (rest := []) hF (c_X2_step a g r σ0 a1 (0 : Int32) q2 hq2 i0 (Or.inl rfl)) (Nat.le_of_ble_eq_true rfl) mV_X2_step m_1258 (recv_ob obC_7) rfl rfl (Nat.le_of_ble_eq_true rfl) d_X2_unary_27 (k_v (fun σ4 ⟨iσ4, ik4⟩ => ?_)) (fun _ _ _ h => h.elim)
    have kp : Keep [(4, 1), (6, 3), (6, 4)] [24, 43] σ0 σ4 := keep_c kp ik4 (by decide) (by decide)
    exact g_vret hF rfl d_X2_unary_30 ⟨rfl, rfl, rfl, ⟨iσ4, kp⟩⟩
  · -- not taken at 14
    refine g_iload_n hF d_X2_unary_17 rfl 1 rfl ?_
    refine g_bipush hF (v := 62) d_X2_unary_18 (by decide) ?_
    refine g_icmp_ne (yv := 62) hF 31 d_X2_unary_20 (by decide) rfl (by decide) (fun c5_20 => ?_) (fun c5_20 => ?_)
    · -- taken at 20
      refine g_iload_n hF d_X2_unary_31 rfl 1 rfl ?_
      refine g_bipush hF (v := 48) d_X2_unary_32 (by decide) ?_
      refine g_icmp_ne (yv := 48) hF 66 d_X2_unary_34 (by decide) rfl (by decide) (fun c6_34 => ?_) (fun c6_34 => ?_)
      · -- taken at 34
        refine g_iload_n hF d_X2_unary_66 rfl 1 rfl ?_
        refine g_bipush hF (v := 45) d_X2_unary_67 (by decide) ?_
        refine g_icmp_ne (yv := 45) hF 85 d_X2_unary_69 (by decide) rfl (by decide) (fun c7_69 => ?_) (fun c7_69 => ?_)
        · -- taken at 69
          refine g_aload_n hF d_X2_unary_85 rfl 2 rfl ?_
          refine g_aload_n hF d_X2_unary_86 rfl 2 rfl ?_
          refine g_aload_n hF d_X2_unary_87 rfl 0 rfl ?_
          refine g_callV (As := [.ref (r q2)]) (rest := [.ref (r 7)]) hF (c_X2_loaded a g r σ0 q2 hq2 i0) (Nat.le_of_ble_eq_true rfl) mV_X2_loaded m_1164 (recv_ob obC_7) rfl rfl (Nat.le_of_ble_eq_true rfl) d_X2_unary_88 (k_a (fun q8 σ8 ⟨hq8, iσ8, ik8⟩ => ?_)) (fun _ _ _ h => h.elim)
          have kp : Keep [(4, 1), (6, 3), (6, 4)] [24, 43] σ0 σ8 := keep_c kp ik8 (by decide) (by decide)
          refine g_iload_n hF d_X2_unary_91 rfl 1 rfl ?_
          refine g_iload_n hF d_X2_unary_92 rfl 3 rfl ?_
          refine g_callV (As := [.ref (r q8), .int r1, .int a1]) (rest := []) hF (c_X2_invert a g r σ8 r1 a1 q8 hq8 iσ8) (Nat.le_of_ble_eq_true rfl) mV_X2_invert m_1262 (recv_ob obC_7) rfl rfl (Nat.le_of_ble_eq_true rfl) d_X2_unary_93 (k_v (fun σ9 ⟨iσ9, ik9⟩ => ?_)) (fun _ _ _ h => h.elim)
          have kp : Keep [(4, 1), (6, 3), (6, 4)] [24, 43] σ0 σ9 := keep_c kp ik9 (by decide) (by decide)
          refine g_aload_n hF d_X2_unary_96 rfl 2 rfl ?_
          refine g_aload_n hF d_X2_unary_97 rfl 0 rfl ?_
          refine g_iconst hF (v := 1) d_X2_unary_98 (by decide) ?_
          refine g_aload_n hF d_X2_unary_99 rfl 0 rfl ?_
          refine g_getN hF 2 (obC_op hq2) (by decide) nm_404 (fval_op hq2) d_X2_unary_100 ?_
          refine g_any (fun v10 => ?_)
          refine g_iadd hF d_X2_unary_103 ?_
          refine g_iload_n hF d_X2_unary_104 rfl 3 rfl ?_
          refine g_callV (As := [.ref (r q2), .int (1 + v10), .int a1]) (rest := []) hF (c_X2_raise a g r σ9 (1 + v10) a1 q2 hq2 iσ9) (Nat.le_of_ble_eq_true rfl) mV_X2_raise m_1186 (recv_ob obC_7) rfl rfl (Nat.le_of_ble_eq_true rfl) d_X2_unary_105 (k_v (fun σ11 ⟨iσ11, ik11⟩ => ?_)) (fun _ _ _ h => h.elim)
          have kp : Keep [(4, 1), (6, 3), (6, 4)] [24, 43] σ0 σ11 := keep_c kp ik11 (by decide) (by decide)
          exact g_vret hF rfl d_X2_unary_108 ⟨rfl, rfl, rfl, ⟨iσ11, kp⟩⟩
        · -- not taken at 69
          refine g_aload_n hF d_X2_unary_72 rfl 2 rfl ?_
          refine g_aload_n hF d_X2_unary_73 rfl 2 rfl ?_
          refine g_aload_n hF d_X2_unary_74 rfl 0 rfl ?_
          refine g_callV (As := [.ref (r q2)]) (rest := [.ref (r 7)]) hF (c_X2_loaded a g r σ0 q2 hq2 i0) (Nat.le_of_ble_eq_true rfl) mV_X2_loaded m_1164 (recv_ob obC_7) rfl rfl (Nat.le_of_ble_eq_true rfl) d_X2_unary_75 (k_a (fun q12 σ12 ⟨hq12, iσ12, ik12⟩ => ?_)) (fun _ _ _ h => h.elim)
          have kp : Keep [(4, 1), (6, 3), (6, 4)] [24, 43] σ0 σ12 := keep_c kp ik12 (by decide) (by decide)
          refine g_iload_n hF d_X2_unary_78 rfl 3 rfl ?_
          refine g_callV (As := [.ref (r q12), .int a1]) (rest := []) hF (c_X2_pointed a g r σ12 a1 q12 hq12 iσ12) (Nat.le_of_ble_eq_true rfl) mV_X2_pointed m_1250 (recv_ob obC_7) rfl rfl (Nat.le_of_ble_eq_true rfl) d_X2_unary_79 (k_v (fun σ13 ⟨iσ13, ik13⟩ => ?_)) (fun _ _ _ h => h.elim)
          have kp : Keep [(4, 1), (6, 3), (6, 4)] [24, 43] σ0 σ13 := keep_c kp ik13 (by decide) (by decide)
          refine g_goto hF 96 d_X2_unary_82 (by decide) ?_
          refine g_aload_n hF d_X2_unary_96 rfl 2 rfl ?_
          refine g_aload_n hF d_X2_unary_97 rfl 0 rfl ?_
          refine g_iconst hF (v := 1) d_X2_unary_98 (by decide) ?_
          refine g_aload_n hF d_X2_unary_99 rfl 0 rfl ?_
          refine g_getN hF 2 (obC_op hq2) (by decide) nm_404 (fval_op hq2) d_X2_unary_100 ?_
          refine g_any (fun v14 => ?_)
          refine g_iadd hF d_X2_unary_103 ?_
          refine g_iload_n hF d_X2_unary_104 rfl 3 rfl ?_
          refine g_callV (As := [.ref (r q2), .int (1 + v14), .int a1]) (rest := []) hF (c_X2_raise a g r σ13 (1 + v14) a1 q2 hq2 iσ13) (Nat.le_of_ble_eq_true rfl) mV_X2_raise m_1186 (recv_ob obC_7) rfl rfl (Nat.le_of_ble_eq_true rfl) d_X2_unary_105 (k_v (fun σ15 ⟨iσ15, ik15⟩ => ?_)) (fun _ _ _ h => h.elim)
          have kp : Keep [(4, 1), (6, 3), (6, 4)] [24, 43] σ0 σ15 := keep_c kp ik15 (by decide) (by decide)
          exact g_vret hF rfl d_X2_unary_108 ⟨rfl, rfl, rfl, ⟨iσ15, kp⟩⟩
      · -- not taken at 34
        refine g_aload_n hF d_X2_unary_37 rfl 0 rfl ?_
        refine g_callVN (As := []) (rest := []) hF (c_X6_isPlace a g r σ0 q2 hq2 i0) (Nat.le_of_ble_eq_true rfl) mV_X6_isPlace nm_1168 (recv_ob (obC_op hq2)) rfl rfl (Nat.le_of_ble_eq_true rfl) d_X2_unary_38 (k_roz (fun r16 hz16 => ?_))
        refine g_if_eq hF 53 d_X2_unary_41 (by decide) rfl (fun c17_41 => ?_) (fun c17_41 => ?_)
        · -- taken at 41
          refine g_aload_n hF d_X2_unary_53 rfl 2 rfl ?_
          refine g_iload_n hF d_X2_unary_54 rfl 3 rfl ?_
          refine g_callV (As := [.int a1]) (rest := []) hF (c_X2_refuse a g r σ0 a1 i0) (Nat.le_of_ble_eq_true rfl) mV_X2_refuse m_1126 (recv_ob obC_7) rfl rfl (Nat.le_of_ble_eq_true rfl) d_X2_unary_55 (k_v (fun σ18 ⟨iσ18, ik18⟩ => ?_)) (fun _ _ _ h => h.elim)
          have kp : Keep [(4, 1), (6, 3), (6, 4)] [24, 43] σ0 σ18 := keep_c kp ik18 (by decide) (by decide)
          refine g_aload_n hF d_X2_unary_58 rfl 2 rfl ?_
          refine g_aload_n hF d_X2_unary_59 rfl 0 rfl ?_
          refine g_callV (As := [.ref (r q2)]) (rest := []) hF (c_X2_address a g r σ18 q2 hq2 iσ18) (Nat.le_of_ble_eq_true rfl) mV_X2_address m_1137 (recv_ob obC_7) rfl rfl (Nat.le_of_ble_eq_true rfl) d_X2_unary_60 (k_v (fun σ19 ⟨iσ19, ik19⟩ => ?_)) (fun _ _ _ h => h.elim)
          have kp : Keep [(4, 1), (6, 3), (6, 4)] [24, 43] σ0 σ19 := keep_c kp ik19 (by decide) (by decide)
          refine g_goto hF 96 d_X2_unary_63 (by decide) ?_
          refine g_aload_n hF d_X2_unary_96 rfl 2 rfl ?_
          refine g_aload_n hF d_X2_unary_97 rfl 0 rfl ?_
          refine g_iconst hF (v := 1) d_X2_unary_98 (by decide) ?_
          refine g_aload_n hF d_X2_unary_99 rfl 0 rfl ?_
          refine g_getN hF 2 (obC_op hq2) (by decide) nm_404 (fval_op hq2) d_X2_unary_100 ?_
          refine g_any (fun v20 => ?_)
          refine g_iadd hF d_X2_unary_103 ?_
          refine g_iload_n hF d_X2_unary_104 rfl 3 rfl ?_
          refine g_callV (As := [.ref (r q2), .int (1 + v20), .int a1]) (rest := []) hF (c_X2_raise a g r σ19 (1 + v20) a1 q2 hq2 iσ19) (Nat.le_of_ble_eq_true rfl) mV_X2_raise m_1186 (recv_ob obC_7) rfl rfl (Nat.le_of_ble_eq_true rfl) d_X2_unary_105 (k_v (fun σ21 ⟨iσ21, ik21⟩ => ?_)) (fun _ _ _ h => h.elim)
          have kp : Keep [(4, 1), (6, 3), (6, 4)] [24, 43] σ0 σ21 := keep_c kp ik21 (by decide) (by decide)
          exact g_vret hF rfl d_X2_unary_108 ⟨rfl, rfl, rfl, ⟨iσ21, kp⟩⟩
        · -- not taken at 41
          refine g_aload_n hF d_X2_unary_44 rfl 0 rfl ?_
          refine g_getN hF 1 (obC_op hq2) (by decide) nm_402 (fval_op hq2) d_X2_unary_45 ?_
          refine g_any (fun v22 => ?_)
          refine g_bipush hF (v := 9) d_X2_unary_48 (by decide) ?_
          refine g_icmp_lt (yv := 9) hF 58 d_X2_unary_50 (by decide) rfl (by decide) (fun c23_50 => ?_) (fun c23_50 => ?_)
          · -- taken at 50
            refine g_aload_n hF d_X2_unary_58 rfl 2 rfl ?_
            refine g_aload_n hF d_X2_unary_59 rfl 0 rfl ?_
            refine g_callV (As := [.ref (r q2)]) (rest := []) hF (c_X2_address a g r σ0 q2 hq2 i0) (Nat.le_of_ble_eq_true rfl) mV_X2_address m_1137 (recv_ob obC_7) rfl rfl (Nat.le_of_ble_eq_true rfl) d_X2_unary_60 (k_v (fun σ24 ⟨iσ24, ik24⟩ => ?_)) (fun _ _ _ h => h.elim)
            have kp : Keep [(4, 1), (6, 3), (6, 4)] [24, 43] σ0 σ24 := keep_c kp ik24 (by decide) (by decide)
            refine g_goto hF 96 d_X2_unary_63 (by decide) ?_
            refine g_aload_n hF d_X2_unary_96 rfl 2 rfl ?_
            refine g_aload_n hF d_X2_unary_97 rfl 0 rfl ?_
            refine g_iconst hF (v := 1) d_X2_unary_98 (by decide) ?_
            refine g_aload_n hF d_X2_unary_99 rfl 0 rfl ?_
            refine g_getN hF 2 (obC_op hq2) (by decide) nm_404 (fval_op hq2) d_X2_unary_100 ?_
            refine g_any (fun v25 => ?_)
            refine g_iadd hF d_X2_unary_103 ?_
            refine g_iload_n hF d_X2_unary_104 rfl 3 rfl ?_
            refine g_callV (As := [.ref (r q2), .int (1 + v25), .int a1]) (rest := []) hF (c_X2_raise a g r σ24 (1 + v25) a1 q2 hq2 iσ24) (Nat.le_of_ble_eq_true rfl) mV_X2_raise m_1186 (recv_ob obC_7) rfl rfl (Nat.le_of_ble_eq_true rfl) d_X2_unary_105 (k_v (fun σ26 ⟨iσ26, ik26⟩ => ?_)) (fun _ _ _ h => h.elim)
            have kp : Keep [(4, 1), (6, 3), (6, 4)] [24, 43] σ0 σ26 := keep_c kp ik26 (by decide) (by decide)
            exact g_vret hF rfl d_X2_unary_108 ⟨rfl, rfl, rfl, ⟨iσ26, kp⟩⟩
          · -- not taken at 50
            refine g_aload_n hF d_X2_unary_53 rfl 2 rfl ?_
            refine g_iload_n hF d_X2_unary_54 rfl 3 rfl ?_
            refine g_callV (As := [.int a1]) (rest := []) hF (c_X2_refuse a g r σ0 a1 i0) (Nat.le_of_ble_eq_true rfl) mV_X2_refuse m_1126 (recv_ob obC_7) rfl rfl (Nat.le_of_ble_eq_true rfl) d_X2_unary_55 (k_v (fun σ27 ⟨iσ27, ik27⟩ => ?_)) (fun _ _ _ h => h.elim)
            have kp : Keep [(4, 1), (6, 3), (6, 4)] [24, 43] σ0 σ27 := keep_c kp ik27 (by decide) (by decide)
            refine g_aload_n hF d_X2_unary_58 rfl 2 rfl ?_
            refine g_aload_n hF d_X2_unary_59 rfl 0 rfl ?_
            refine g_callV (As := [.ref (r q2)]) (rest := []) hF (c_X2_address a g r σ27 q2 hq2 iσ27) (Nat.le_of_ble_eq_true rfl) mV_X2_address m_1137 (recv_ob obC_7) rfl rfl (Nat.le_of_ble_eq_true rfl) d_X2_unary_60 (k_v (fun σ28 ⟨iσ28, ik28⟩ => ?_)) (fun _ _ _ h => h.elim)
            have kp : Keep [(4, 1), (6, 3), (6, 4)] [24, 43] σ0 σ28 := keep_c kp ik28 (by decide) (by decide)
            refine g_goto hF 96 d_X2_unary_63 (by decide) ?_
            refine g_aload_n hF d_X2_unary_96 rfl 2 rfl ?_
            refine g_aload_n hF d_X2_unary_97 rfl 0 rfl ?_
            refine g_iconst hF (v := 1) d_X2_unary_98 (by decide) ?_
            refine g_aload_n hF d_X2_unary_99 rfl 0 rfl ?_
            refine g_getN hF 2 (obC_op hq2) (by decide) nm_404 (fval_op hq2) d_X2_unary_100 ?_
            refine g_any (fun v29 => ?_)
            refine g_iadd hF d_X2_unary_103 ?_
            refine g_iload_n hF d_X2_unary_104 rfl 3 rfl ?_
            refine g_callV (As := [.ref (r q2), .int (1 + v29), .int a1]) (rest := []) hF (c_X2_raise a g r σ28 (1 + v29) a1 q2 hq2 iσ28) (Nat.le_of_ble_eq_true rfl) mV_X2_raise m_1186 (recv_ob obC_7) rfl rfl (Nat.le_of_ble_eq_true rfl) d_X2_unary_105 (k_v (fun σ30 ⟨iσ30, ik30⟩ => ?_)) (fun _ _ _ h => h.elim)
            have kp : Keep [(4, 1), (6, 3), (6, 4)] [24, 43] σ0 σ30 := keep_c kp ik30 (by decide) (by decide)
            exact g_vret hF rfl d_X2_unary_108 ⟨rfl, rfl, rfl, ⟨iσ30, kp⟩⟩
    · -- not taken at 20
      refine g_aload_n hF d_X2_unary_23 rfl 2 rfl ?_
      refine g_aload_n hF d_X2_unary_24 rfl 0 rfl ?_
      refine g_iload_n hF d_X2_unary_25 rfl 3 rfl ?_
      refine g_iconst hF (v := 0) d_X2_unary_26 (by decide) ?_
      refine g_callV (As := [.ref (r q2), .int a1, .int 0]) (rest := []) hF (c_X2_step a g r σ0 a1 (0 : Int32) q2 hq2 i0 (Or.inl rfl)) (Nat.le_of_ble_eq_true rfl) mV_X2_step m_1258 (recv_ob obC_7) rfl rfl (Nat.le_of_ble_eq_true rfl) d_X2_unary_27 (k_v (fun σ31 ⟨iσ31, ik31⟩ => ?_)) (fun _ _ _ h => h.elim)
      have kp : Keep [(4, 1), (6, 3), (6, 4)] [24, 43] σ0 σ31 := keep_c kp ik31 (by decide) (by decide)
      exact g_vret hF rfl d_X2_unary_30 ⟨rfl, rfl, rfl, ⟨iσ31, kp⟩⟩
set_option maxHeartbeats 4000000 in
set_option maxRecDepth 100000 in
theorem c_X2_choice (a : Nat → Nat) (g : Nat → Nat → Int32) (r : Nat → Nat) (σ0 : St) (a1 : Int32) (i0 : Inv σ0) (l : Launch) (D : va_G) (cy : Nat → ClassId) : Ct l D cy SC r (EC a g) y_X2_choice (Cond.code y_X2_choice b_X2_choice 6 none) 3 [.ref (r 7), .int a1] σ0 Z0 [] (QV (fun σ9 => (Inv σ9 ∧ Keep [(4, 1), (6, 3), (6, 4), (7, 7)] [24] σ0 σ9))) QF := by
  refine Ct_of (EC_ok a g) (by decide) (Nat.le_of_ble_eq_true rfl) (by decide) (fun X hnn hF => ?_)
  show G SC r X σ0 Z0 [] [(0, .ref (r 7)), (1, .int a1)] [] 0
  have kp : Keep [(4, 1), (6, 3), (6, 4), (7, 7)] [24] σ0 σ0 := keep_rf
  refine g_aload_n hF d_X2_choice_0 rfl 0 rfl ?_
  refine g_callV (As := []) (rest := []) hF (c_X2_pop a g r σ0 i0) (Nat.le_of_ble_eq_true rfl) mV_X2_pop m_1156 (recv_ob obC_7) rfl rfl (Nat.le_of_ble_eq_true rfl) d_X2_choice_1 (k_a (fun q1 σ1 ⟨hq1, iσ1, ik1⟩ => ?_)) (fun _ _ _ h => h.elim)
  have kp : Keep [(4, 1), (6, 3), (6, 4), (7, 7)] [24] σ0 σ1 := keep_c kp ik1 (by decide) (by decide)
  refine g_astore_n hF [(2, .ref (r q1)), (0, .ref (r 7)), (1, .int a1)] d_X2_choice_4 rfl hnn (by decide) rfl ?_
  refine g_aload_n hF d_X2_choice_5 rfl 1 rfl ?_
  refine g_callV (As := []) (rest := []) hF (c_X2_pop a g r σ1 iσ1) (Nat.le_of_ble_eq_true rfl) mV_X2_pop m_1156 (recv_ob obC_7) rfl rfl (Nat.le_of_ble_eq_true rfl) d_X2_choice_6 (k_a (fun q2 σ2 ⟨hq2, iσ2, ik2⟩ => ?_)) (fun _ _ _ h => h.elim)
  have kp : Keep [(4, 1), (6, 3), (6, 4), (7, 7)] [24] σ0 σ2 := keep_c kp ik2 (by decide) (by decide)
  refine g_astore_n hF [(3, .ref (r q2)), (2, .ref (r q1)), (0, .ref (r 7)), (1, .int a1)] d_X2_choice_9 rfl hnn (by decide) rfl ?_
  refine g_aload_n hF d_X2_choice_10 rfl 2 rfl ?_
  refine g_callV (As := []) (rest := []) hF (c_X2_top a g r σ2 iσ2) (Nat.le_of_ble_eq_true rfl) mV_X2_top m_1160 (recv_ob obC_7) rfl rfl (Nat.le_of_ble_eq_true rfl) d_X2_choice_11 (k_roa (fun q3 hq3 => ?_)) (fun _ _ _ h => h.elim)
  refine g_astore hF [(4, .ref (r q3)), (3, .ref (r q2)), (2, .ref (r q1)), (0, .ref (r 7)), (1, .int a1)] d_X2_choice_14 hnn (by decide) rfl ?_
  refine g_aload_n hF d_X2_choice_16 rfl 3 rfl ?_
  refine g_get (v := .ref (r 4)) hF 4 obC_7 (by decide) m_461 rfl d_X2_choice_17 ?_
  refine g_aload hF d_X2_choice_20 0 rfl ?_
  refine g_getN hF 10 (obC_op hq3) (by decide) nm_424 (fval_op hq3) d_X2_choice_22 ?_
  refine g_any (fun v4 => ?_)
  refine g_aload_n hF d_X2_choice_25 rfl 3 rfl ?_
  refine g_get (v := .ref (r 4)) hF 4 obC_7 (by decide) m_461 rfl d_X2_choice_26 ?_
  refine g_getN (v := .int (σ2 4 1)) hF 1 obC_4 (by decide) nm_155 rfl d_X2_choice_29 ?_
  refine g_callVN (As := [.int v4, .int (σ2 4 1)]) (rest := []) hF (c_X0_aim a g r σ2 v4 (σ2 4 1) iσ2) (Nat.le_of_ble_eq_true rfl) mV_X0_aim nm_1209 (recv_ob obC_4) rfl rfl (Nat.le_of_ble_eq_true rfl) d_X2_choice_32 (k_v (fun σ5 ⟨iσ5, ik5⟩ => ?_))
  have kp : Keep [(4, 1), (6, 3), (6, 4), (7, 7)] [24] σ0 σ5 := keep_c kp ik5 (by decide) (by decide)
  refine g_aload hF d_X2_choice_35 0 rfl ?_
  refine g_getN hF 1 (obC_op hq3) (by decide) nm_402 (fval_op hq3) d_X2_choice_37 ?_
  refine g_any (fun v6 => ?_)
  refine g_iconst hF (v := (-1)) d_X2_choice_40 (by decide) ?_
  refine g_icmp_eq (yv := -1) hF 66 d_X2_choice_41 (by decide) rfl (by decide) (fun c7_41 => ?_) (fun c7_41 => ?_)
  · -- taken at 41
    refine g_aload_n hF d_X2_choice_66 rfl 3 rfl ?_
    refine g_iload_n hF d_X2_choice_67 rfl 4 rfl ?_
    refine g_callV (As := [.int a1]) (rest := []) hF (c_X2_refuse a g r σ5 a1 iσ5) (Nat.le_of_ble_eq_true rfl) mV_X2_refuse m_1126 (recv_ob obC_7) rfl rfl (Nat.le_of_ble_eq_true rfl) d_X2_choice_68 (k_v (fun σ8 ⟨iσ8, ik8⟩ => ?_)) (fun _ _ _ h => h.elim)
    have kp : Keep [(4, 1), (6, 3), (6, 4), (7, 7)] [24] σ0 σ8 := keep_c kp ik8 (by decide) (by decide)
    refine g_aload hF d_X2_choice_71 0 rfl ?_
    refine g_getN hF 2 (obC_op hq3) (by decide) nm_404 (fval_op hq3) d_X2_choice_73 ?_
    refine g_any (fun v9 => ?_)
    refine g_aload_n hF d_X2_choice_76 rfl 1 rfl ?_
    refine g_getN hF 2 (obC_op hq2) (by decide) nm_404 (fval_op hq2) d_X2_choice_77 ?_
    refine g_any (fun v10 => ?_)
    refine g_aload_n hF d_X2_choice_80 rfl 2 rfl ?_
    refine g_getN hF 2 (obC_op hq1) (by decide) nm_404 (fval_op hq1) d_X2_choice_81 ?_
    refine g_any (fun v11 => ?_)
    refine g_mmax hF (Nat.le_of_ble_eq_true rfl) m_1130 m_1131 m_23 m_1132 (Nat.le_of_ble_eq_true rfl) d_X2_choice_84 ?_
    refine g_nm (fun v13 ev13 => ?_)
    have mv13 := s_max ev13
    refine g_mmax hF (Nat.le_of_ble_eq_true rfl) m_1130 m_1131 m_23 m_1132 (Nat.le_of_ble_eq_true rfl) d_X2_choice_87 ?_
    refine g_nm (fun v15 ev15 => ?_)
    have mv15 := s_max ev15
    refine g_istore hF [(5, .int v15), (4, .ref (r q3)), (3, .ref (r q2)), (2, .ref (r q1)), (0, .ref (r 7)), (1, .int a1)] d_X2_choice_90 hnn (by decide) rfl ?_
    refine g_aload hF d_X2_choice_92 1 rfl ?_
    refine g_aload_n hF d_X2_choice_94 rfl 2 rfl ?_
    refine g_getN hF 1 (obC_op hq2) (by decide) nm_402 (fval_op hq2) d_X2_choice_95 ?_
    refine g_any (fun v16 => ?_)
    refine g_aload_n hF d_X2_choice_98 rfl 3 rfl ?_
    refine g_getN hF 1 (obC_op hq1) (by decide) nm_402 (fval_op hq1) d_X2_choice_99 ?_
    refine g_any (fun v17 => ?_)
    refine g_mmax hF (Nat.le_of_ble_eq_true rfl) m_1130 m_1131 m_23 m_1132 (Nat.le_of_ble_eq_true rfl) d_X2_choice_102 ?_
    refine g_nm (fun v19 ev19 => ?_)
    have mv19 := s_max ev19
    refine g_iconst hF (v := 0) d_X2_choice_105 (by decide) ?_
    refine g_callVN (As := [.int v19, .int 0]) (rest := []) hF (c_X6_become a g r σ8 v19 (0 : Int32) q3 hq3 iσ8) (Nat.le_of_ble_eq_true rfl) mV_X6_become nm_1100 (recv_ob (obC_op hq3)) rfl rfl (Nat.le_of_ble_eq_true rfl) d_X2_choice_106 (k_v (fun σ20 ⟨iσ20, ik20⟩ => ?_))
    have kp : Keep [(4, 1), (6, 3), (6, 4), (7, 7)] [24] σ0 σ20 := keep_c kp ik20 (by decide) (by decide)
    refine g_aload_n hF d_X2_choice_109 rfl 4 rfl ?_
    refine g_aload hF d_X2_choice_110 1 rfl ?_
    refine g_iconst hF (v := 1) d_X2_choice_112 (by decide) ?_
    refine g_iload hF d_X2_choice_113 0 rfl ?_
    refine g_iadd hF d_X2_choice_115 ?_
    refine g_iload_n hF d_X2_choice_116 rfl 5 rfl ?_
    refine g_callV (As := [.ref (r q3), .int (1 + v15), .int a1]) (rest := []) hF (c_X2_raise a g r σ20 (1 + v15) a1 q3 hq3 iσ20) (Nat.le_of_ble_eq_true rfl) mV_X2_raise m_1186 (recv_ob obC_7) rfl rfl (Nat.le_of_ble_eq_true rfl) d_X2_choice_117 (k_v (fun σ21 ⟨iσ21, ik21⟩ => ?_)) (fun _ _ _ h => h.elim)
    have kp : Keep [(4, 1), (6, 3), (6, 4), (7, 7)] [24] σ0 σ21 := keep_c kp ik21 (by decide) (by decide)
    exact g_vret hF rfl d_X2_choice_120 ⟨rfl, rfl, rfl, ⟨iσ21, kp⟩⟩
  · -- not taken at 41
    refine g_aload_n hF d_X2_choice_44 rfl 2 rfl ?_
    refine g_aload_n hF d_X2_choice_45 rfl 1 rfl ?_
    refine g_getN hF 1 (obC_op hq2) (by decide) nm_402 (fval_op hq2) d_X2_choice_46 ?_
    refine g_any (fun v22 => ?_)
    refine g_callVN (As := [.int v22]) (rest := []) hF (c_X6_fits a g r σ5 v22 q1 hq1 iσ5) (Nat.le_of_ble_eq_true rfl) mV_X6_fits nm_1174 (recv_ob (obC_op hq1)) rfl rfl (Nat.le_of_ble_eq_true rfl) d_X2_choice_49 (k_roz (fun r23 hz23 => ?_))
    refine g_if_ne hF 71 d_X2_choice_52 (by decide) rfl (fun c24_52 => ?_) (fun c24_52 => ?_)
    · -- taken at 52
      refine g_aload hF d_X2_choice_71 0 rfl ?_
      refine g_getN hF 2 (obC_op hq3) (by decide) nm_404 (fval_op hq3) d_X2_choice_73 ?_
      refine g_any (fun v25 => ?_)
      refine g_aload_n hF d_X2_choice_76 rfl 1 rfl ?_
      refine g_getN hF 2 (obC_op hq2) (by decide) nm_404 (fval_op hq2) d_X2_choice_77 ?_
      refine g_any (fun v26 => ?_)
      refine g_aload_n hF d_X2_choice_80 rfl 2 rfl ?_
      refine g_getN hF 2 (obC_op hq1) (by decide) nm_404 (fval_op hq1) d_X2_choice_81 ?_
      refine g_any (fun v27 => ?_)
      refine g_mmax hF (Nat.le_of_ble_eq_true rfl) m_1130 m_1131 m_23 m_1132 (Nat.le_of_ble_eq_true rfl) d_X2_choice_84 ?_
      refine g_nm (fun v29 ev29 => ?_)
      have mv29 := s_max ev29
      refine g_mmax hF (Nat.le_of_ble_eq_true rfl) m_1130 m_1131 m_23 m_1132 (Nat.le_of_ble_eq_true rfl) d_X2_choice_87 ?_
      refine g_nm (fun v31 ev31 => ?_)
      have mv31 := s_max ev31
      refine g_istore hF [(5, .int v31), (4, .ref (r q3)), (3, .ref (r q2)), (2, .ref (r q1)), (0, .ref (r 7)), (1, .int a1)] d_X2_choice_90 hnn (by decide) rfl ?_
      refine g_aload hF d_X2_choice_92 1 rfl ?_
      refine g_aload_n hF d_X2_choice_94 rfl 2 rfl ?_
      refine g_getN hF 1 (obC_op hq2) (by decide) nm_402 (fval_op hq2) d_X2_choice_95 ?_
      refine g_any (fun v32 => ?_)
      refine g_aload_n hF d_X2_choice_98 rfl 3 rfl ?_
      refine g_getN hF 1 (obC_op hq1) (by decide) nm_402 (fval_op hq1) d_X2_choice_99 ?_
      refine g_any (fun v33 => ?_)
      refine g_mmax hF (Nat.le_of_ble_eq_true rfl) m_1130 m_1131 m_23 m_1132 (Nat.le_of_ble_eq_true rfl) d_X2_choice_102 ?_
      refine g_nm (fun v35 ev35 => ?_)
      have mv35 := s_max ev35
      refine g_iconst hF (v := 0) d_X2_choice_105 (by decide) ?_
      refine g_callVN (As := [.int v35, .int 0]) (rest := []) hF (c_X6_become a g r σ5 v35 (0 : Int32) q3 hq3 iσ5) (Nat.le_of_ble_eq_true rfl) mV_X6_become nm_1100 (recv_ob (obC_op hq3)) rfl rfl (Nat.le_of_ble_eq_true rfl) d_X2_choice_106 (k_v (fun σ36 ⟨iσ36, ik36⟩ => ?_))
      have kp : Keep [(4, 1), (6, 3), (6, 4), (7, 7)] [24] σ0 σ36 := keep_c kp ik36 (by decide) (by decide)
      refine g_aload_n hF d_X2_choice_109 rfl 4 rfl ?_
      refine g_aload hF d_X2_choice_110 1 rfl ?_
      refine g_iconst hF (v := 1) d_X2_choice_112 (by decide) ?_
      refine g_iload hF d_X2_choice_113 0 rfl ?_
      refine g_iadd hF d_X2_choice_115 ?_
      refine g_iload_n hF d_X2_choice_116 rfl 5 rfl ?_
      refine g_callV (As := [.ref (r q3), .int (1 + v31), .int a1]) (rest := []) hF (c_X2_raise a g r σ36 (1 + v31) a1 q3 hq3 iσ36) (Nat.le_of_ble_eq_true rfl) mV_X2_raise m_1186 (recv_ob obC_7) rfl rfl (Nat.le_of_ble_eq_true rfl) d_X2_choice_117 (k_v (fun σ37 ⟨iσ37, ik37⟩ => ?_)) (fun _ _ _ h => h.elim)
      have kp : Keep [(4, 1), (6, 3), (6, 4), (7, 7)] [24] σ0 σ37 := keep_c kp ik37 (by decide) (by decide)
      exact g_vret hF rfl d_X2_choice_120 ⟨rfl, rfl, rfl, ⟨iσ37, kp⟩⟩
    · -- not taken at 52
      refine g_aload_n hF d_X2_choice_55 rfl 1 rfl ?_
      refine g_aload_n hF d_X2_choice_56 rfl 2 rfl ?_
      refine g_getN hF 1 (obC_op hq1) (by decide) nm_402 (fval_op hq1) d_X2_choice_57 ?_
      refine g_any (fun v38 => ?_)
      refine g_callVN (As := [.int v38]) (rest := []) hF (c_X6_fits a g r σ5 v38 q2 hq2 iσ5) (Nat.le_of_ble_eq_true rfl) mV_X6_fits nm_1174 (recv_ob (obC_op hq2)) rfl rfl (Nat.le_of_ble_eq_true rfl) d_X2_choice_60 (k_roz (fun r39 hz39 => ?_))
      refine g_if_ne hF 71 d_X2_choice_63 (by decide) rfl (fun c40_63 => ?_) (fun c40_63 => ?_)
      · -- taken at 63
        refine g_aload hF d_X2_choice_71 0 rfl ?_
        refine g_getN hF 2 (obC_op hq3) (by decide) nm_404 (fval_op hq3) d_X2_choice_73 ?_
        refine g_any (fun v41 => ?_)
        refine g_aload_n hF d_X2_choice_76 rfl 1 rfl ?_
        refine g_getN hF 2 (obC_op hq2) (by decide) nm_404 (fval_op hq2) d_X2_choice_77 ?_
        refine g_any (fun v42 => ?_)
        refine g_aload_n hF d_X2_choice_80 rfl 2 rfl ?_
        refine g_getN hF 2 (obC_op hq1) (by decide) nm_404 (fval_op hq1) d_X2_choice_81 ?_
        refine g_any (fun v43 => ?_)
        refine g_mmax hF (Nat.le_of_ble_eq_true rfl) m_1130 m_1131 m_23 m_1132 (Nat.le_of_ble_eq_true rfl) d_X2_choice_84 ?_
        refine g_nm (fun v45 ev45 => ?_)
        have mv45 := s_max ev45
        refine g_mmax hF (Nat.le_of_ble_eq_true rfl) m_1130 m_1131 m_23 m_1132 (Nat.le_of_ble_eq_true rfl) d_X2_choice_87 ?_
        refine g_nm (fun v47 ev47 => ?_)
        have mv47 := s_max ev47
        refine g_istore hF [(5, .int v47), (4, .ref (r q3)), (3, .ref (r q2)), (2, .ref (r q1)), (0, .ref (r 7)), (1, .int a1)] d_X2_choice_90 hnn (by decide) rfl ?_
        refine g_aload hF d_X2_choice_92 1 rfl ?_
        refine g_aload_n hF d_X2_choice_94 rfl 2 rfl ?_
        refine g_getN hF 1 (obC_op hq2) (by decide) nm_402 (fval_op hq2) d_X2_choice_95 ?_
        refine g_any (fun v48 => ?_)
        refine g_aload_n hF d_X2_choice_98 rfl 3 rfl ?_
        refine g_getN hF 1 (obC_op hq1) (by decide) nm_402 (fval_op hq1) d_X2_choice_99 ?_
        refine g_any (fun v49 => ?_)
        refine g_mmax hF (Nat.le_of_ble_eq_true rfl) m_1130 m_1131 m_23 m_1132 (Nat.le_of_ble_eq_true rfl) d_X2_choice_102 ?_
        refine g_nm (fun v51 ev51 => ?_)
        have mv51 := s_max ev51
        refine g_iconst hF (v := 0) d_X2_choice_105 (by decide) ?_
        refine g_callVN (As := [.int v51, .int 0]) (rest := []) hF (c_X6_become a g r σ5 v51 (0 : Int32) q3 hq3 iσ5) (Nat.le_of_ble_eq_true rfl) mV_X6_become nm_1100 (recv_ob (obC_op hq3)) rfl rfl (Nat.le_of_ble_eq_true rfl) d_X2_choice_106 (k_v (fun σ52 ⟨iσ52, ik52⟩ => ?_))
        have kp : Keep [(4, 1), (6, 3), (6, 4), (7, 7)] [24] σ0 σ52 := keep_c kp ik52 (by decide) (by decide)
        refine g_aload_n hF d_X2_choice_109 rfl 4 rfl ?_
        refine g_aload hF d_X2_choice_110 1 rfl ?_
        refine g_iconst hF (v := 1) d_X2_choice_112 (by decide) ?_
        refine g_iload hF d_X2_choice_113 0 rfl ?_
        refine g_iadd hF d_X2_choice_115 ?_
        refine g_iload_n hF d_X2_choice_116 rfl 5 rfl ?_
        refine g_callV (As := [.ref (r q3), .int (1 + v47), .int a1]) (rest := []) hF (c_X2_raise a g r σ52 (1 + v47) a1 q3 hq3 iσ52) (Nat.le_of_ble_eq_true rfl) mV_X2_raise m_1186 (recv_ob obC_7) rfl rfl (Nat.le_of_ble_eq_true rfl) d_X2_choice_117 (k_v (fun σ53 ⟨iσ53, ik53⟩ => ?_)) (fun _ _ _ h => h.elim)
        have kp : Keep [(4, 1), (6, 3), (6, 4), (7, 7)] [24] σ0 σ53 := keep_c kp ik53 (by decide) (by decide)
        exact g_vret hF rfl d_X2_choice_120 ⟨rfl, rfl, rfl, ⟨iσ53, kp⟩⟩
      · -- not taken at 63
        refine g_aload_n hF d_X2_choice_66 rfl 3 rfl ?_
        refine g_iload_n hF d_X2_choice_67 rfl 4 rfl ?_
        refine g_callV (As := [.int a1]) (rest := []) hF (c_X2_refuse a g r σ5 a1 iσ5) (Nat.le_of_ble_eq_true rfl) mV_X2_refuse m_1126 (recv_ob obC_7) rfl rfl (Nat.le_of_ble_eq_true rfl) d_X2_choice_68 (k_v (fun σ54 ⟨iσ54, ik54⟩ => ?_)) (fun _ _ _ h => h.elim)
        have kp : Keep [(4, 1), (6, 3), (6, 4), (7, 7)] [24] σ0 σ54 := keep_c kp ik54 (by decide) (by decide)
        refine g_aload hF d_X2_choice_71 0 rfl ?_
        refine g_getN hF 2 (obC_op hq3) (by decide) nm_404 (fval_op hq3) d_X2_choice_73 ?_
        refine g_any (fun v55 => ?_)
        refine g_aload_n hF d_X2_choice_76 rfl 1 rfl ?_
        refine g_getN hF 2 (obC_op hq2) (by decide) nm_404 (fval_op hq2) d_X2_choice_77 ?_
        refine g_any (fun v56 => ?_)
        refine g_aload_n hF d_X2_choice_80 rfl 2 rfl ?_
        refine g_getN hF 2 (obC_op hq1) (by decide) nm_404 (fval_op hq1) d_X2_choice_81 ?_
        refine g_any (fun v57 => ?_)
        refine g_mmax hF (Nat.le_of_ble_eq_true rfl) m_1130 m_1131 m_23 m_1132 (Nat.le_of_ble_eq_true rfl) d_X2_choice_84 ?_
        refine g_nm (fun v59 ev59 => ?_)
        have mv59 := s_max ev59
        refine g_mmax hF (Nat.le_of_ble_eq_true rfl) m_1130 m_1131 m_23 m_1132 (Nat.le_of_ble_eq_true rfl) d_X2_choice_87 ?_
        refine g_nm (fun v61 ev61 => ?_)
        have mv61 := s_max ev61
        refine g_istore hF [(5, .int v61), (4, .ref (r q3)), (3, .ref (r q2)), (2, .ref (r q1)), (0, .ref (r 7)), (1, .int a1)] d_X2_choice_90 hnn (by decide) rfl ?_
        refine g_aload hF d_X2_choice_92 1 rfl ?_
        refine g_aload_n hF d_X2_choice_94 rfl 2 rfl ?_
        refine g_getN hF 1 (obC_op hq2) (by decide) nm_402 (fval_op hq2) d_X2_choice_95 ?_
        refine g_any (fun v62 => ?_)
        refine g_aload_n hF d_X2_choice_98 rfl 3 rfl ?_
        refine g_getN hF 1 (obC_op hq1) (by decide) nm_402 (fval_op hq1) d_X2_choice_99 ?_
        refine g_any (fun v63 => ?_)
        refine g_mmax hF (Nat.le_of_ble_eq_true rfl) m_1130 m_1131 m_23 m_1132 (Nat.le_of_ble_eq_true rfl) d_X2_choice_102 ?_
        refine g_nm (fun v65 ev65 => ?_)
        have mv65 := s_max ev65
        refine g_iconst hF (v := 0) d_X2_choice_105 (by decide) ?_
        refine g_callVN (As := [.int v65, .int 0]) (rest := []) hF (c_X6_become a g r σ54 v65 (0 : Int32) q3 hq3 iσ54) (Nat.le_of_ble_eq_true rfl) mV_X6_become nm_1100 (recv_ob (obC_op hq3)) rfl rfl (Nat.le_of_ble_eq_true rfl) d_X2_choice_106 (k_v (fun σ66 ⟨iσ66, ik66⟩ => ?_))
        have kp : Keep [(4, 1), (6, 3), (6, 4), (7, 7)] [24] σ0 σ66 := keep_c kp ik66 (by decide) (by decide)
        refine g_aload_n hF d_X2_choice_109 rfl 4 rfl ?_
        refine g_aload hF d_X2_choice_110 1 rfl ?_
        refine g_iconst hF (v := 1) d_X2_choice_112 (by decide) ?_
        refine g_iload hF d_X2_choice_113 0 rfl ?_
        refine g_iadd hF d_X2_choice_115 ?_
        refine g_iload_n hF d_X2_choice_116 rfl 5 rfl ?_
        refine g_callV (As := [.ref (r q3), .int (1 + v61), .int a1]) (rest := []) hF (c_X2_raise a g r σ66 (1 + v61) a1 q3 hq3 iσ66) (Nat.le_of_ble_eq_true rfl) mV_X2_raise m_1186 (recv_ob obC_7) rfl rfl (Nat.le_of_ble_eq_true rfl) d_X2_choice_117 (k_v (fun σ67 ⟨iσ67, ik67⟩ => ?_)) (fun _ _ _ h => h.elim)
        have kp : Keep [(4, 1), (6, 3), (6, 4), (7, 7)] [24] σ0 σ67 := keep_c kp ik67 (by decide) (by decide)
        exact g_vret hF rfl d_X2_choice_120 ⟨rfl, rfl, rfl, ⟨iσ67, kp⟩⟩
set_option maxHeartbeats 4000000 in
set_option maxRecDepth 100000 in
theorem c_X7_whileLoop (a : Nat → Nat) (g : Nat → Nat → Int32) (r : Nat → Nat) (σ0 : St) (a1 : Int32) (a2 : Int32) (i0 : Inv σ0) (l : Launch) (D : va_G) (cy : Nat → ClassId) : Ct l D cy SC r (EC a g) y_X7_whileLoop (Cond.code y_X7_whileLoop b_X7_whileLoop 3 none) 4 [.ref (r 9), .int a1, .int a2] σ0 Z0 [] (QV (fun σ9 => (Inv σ9 ∧ Keep [(4, 1), (6, 3), (6, 4), (7, 7), (9, 5)] [24, 49, 50, 51, 52] σ0 σ9))) QF := by
  refine Ct_of (EC_ok a g) (by decide) (Nat.le_of_ble_eq_true rfl) (by decide) (fun X hnn hF => ?_)
  show G SC r X σ0 Z0 [] [(0, .ref (r 9)), (1, .int a1), (2, .int a2)] [] 0
  have kp : Keep [(4, 1), (6, 3), (6, 4), (7, 7), (9, 5)] [24, 49, 50, 51, 52] σ0 σ0 := keep_rf
  refine g_iload_n hF d_X7_whileLoop_0 rfl 1 rfl ?_
  refine g_bipush hF (v := 26) d_X7_whileLoop_1 (by decide) ?_
  refine g_icmp_ne (yv := 26) hF 14 d_X7_whileLoop_3 (by decide) rfl (by decide) (fun c1_3 => ?_) (fun c1_3 => ?_)
  · -- taken at 3
    refine g_iload_n hF d_X7_whileLoop_14 rfl 1 rfl ?_
    refine g_bipush hF (v := 27) d_X7_whileLoop_15 (by decide) ?_
    refine g_icmp_ne (yv := 27) hF 37 d_X7_whileLoop_17 (by decide) rfl (by decide) (fun c2_17 => ?_) (fun c2_17 => ?_)
    · -- taken at 17
      refine g_aload_n hF d_X7_whileLoop_37 rfl 0 rfl ?_
      refine g_get (v := .ref (r 4)) hF 2 obC_9 (by decide) m_555 rfl d_X7_whileLoop_38 ?_
      refine g_aload_n hF d_X7_whileLoop_41 rfl 0 rfl ?_
      refine g_get (v := .ref (r 52)) hF 9 obC_9 (by decide) m_562 rfl d_X7_whileLoop_42 ?_
      refine g_aload_n hF d_X7_whileLoop_45 rfl 0 rfl ?_
      refine g_get (v := .int (σ0 9 5)) hF 5 obC_9 (by decide) m_558 rfl d_X7_whileLoop_46 ?_
      refine g_iconst hF (v := 1) d_X7_whileLoop_49 (by decide) ?_
      refine g_isub hF d_X7_whileLoop_50 ?_
      refine g_callSN (As := [.ref (r 52), .int ((σ0 9 5) - 1)]) (rest := [.ref (r 4)]) hF (c_at a g r σ0 arC_52 (by decide) ((σ0 9 5) - 1)) (Nat.le_of_ble_eq_true rfl) mS_X12_at nm_1053 rfl rfl (Nat.le_of_ble_eq_true rfl) d_X7_whileLoop_51 (k_rop (fun r3 hr3 => ?_))
      refine g_aload_n hF d_X7_whileLoop_54 rfl 0 rfl ?_
      refine g_get (v := .ref (r 50)) hF 7 obC_9 (by decide) m_560 rfl d_X7_whileLoop_55 ?_
      refine g_aload_n hF d_X7_whileLoop_58 rfl 0 rfl ?_
      refine g_get (v := .int (σ0 9 5)) hF 5 obC_9 (by decide) m_558 rfl d_X7_whileLoop_59 ?_
      refine g_iconst hF (v := 1) d_X7_whileLoop_62 (by decide) ?_
      refine g_isub hF d_X7_whileLoop_63 ?_
      refine g_callSN (As := [.ref (r 50), .int ((σ0 9 5) - 1)]) (rest := [.int r3, .ref (r 4)]) hF (c_at a g r σ0 arC_50 (by decide) ((σ0 9 5) - 1)) (Nat.le_of_ble_eq_true rfl) mS_X12_at nm_1053 rfl rfl (Nat.le_of_ble_eq_true rfl) d_X7_whileLoop_64 (k_rop (fun r4 hr4 => ?_))
      refine g_callVN (As := [.int r3, .int r4]) (rest := []) hF (c_X0_aim a g r σ0 r3 r4 i0) (Nat.le_of_ble_eq_true rfl) mV_X0_aim nm_1318 (recv_ob obC_4) rfl rfl (Nat.le_of_ble_eq_true rfl) d_X7_whileLoop_67 (k_v (fun σ5 ⟨iσ5, ik5⟩ => ?_))
      have kp : Keep [(4, 1), (6, 3), (6, 4), (7, 7), (9, 5)] [24, 49, 50, 51, 52] σ0 σ5 := keep_c kp ik5 (by decide) (by decide)
      refine g_aload_n hF d_X7_whileLoop_70 rfl 0 rfl ?_
      refine g_aload_n hF d_X7_whileLoop_71 rfl 0 rfl ?_
      refine g_get (v := .ref (r 50)) hF 7 obC_9 (by decide) m_560 rfl d_X7_whileLoop_72 ?_
      refine g_aload_n hF d_X7_whileLoop_75 rfl 0 rfl ?_
      refine g_get (v := .int (σ5 9 5)) hF 5 obC_9 (by decide) m_558 rfl d_X7_whileLoop_76 ?_
      refine g_top (v := (σ0 9 5)) (ik5 9 5 rfl rfl rfl) ?_
      refine g_iconst hF (v := 1) d_X7_whileLoop_79 (by decide) ?_
      refine g_isub hF d_X7_whileLoop_80 ?_
      refine g_callSN (As := [.ref (r 50), .int ((σ0 9 5) - 1)]) (rest := [.ref (r 9)]) hF (c_at a g r σ5 arC_50 (by decide) ((σ0 9 5) - 1)) (Nat.le_of_ble_eq_true rfl) mS_X12_at nm_1053 rfl rfl (Nat.le_of_ble_eq_true rfl) d_X7_whileLoop_81 (k_rop (fun r6 hr6 => ?_))
      refine g_callV (As := [.int r6]) (rest := []) hF (c_X7_jumpBack a g r σ5 r6 iσ5) (Nat.le_of_ble_eq_true rfl) mV_X7_jumpBack m_1340 (recv_ob obC_9) rfl rfl (Nat.le_of_ble_eq_true rfl) d_X7_whileLoop_84 (k_v (fun σ7 ⟨iσ7, ik7⟩ => ?_)) (fun _ _ _ h => h.elim)
      have kp : Keep [(4, 1), (6, 3), (6, 4), (7, 7), (9, 5)] [24, 49, 50, 51, 52] σ0 σ7 := keep_c kp ik7 (by decide) (by decide)
      refine g_aload_n hF d_X7_whileLoop_87 rfl 0 rfl ?_
      refine g_callV (As := []) (rest := []) hF (c_X7_finish a g r σ7 iσ7) (Nat.le_of_ble_eq_true rfl) mV_X7_finish m_1319 (recv_ob obC_9) rfl rfl (Nat.le_of_ble_eq_true rfl) d_X7_whileLoop_88 (k_v (fun σ8 ⟨iσ8, ik8⟩ => ?_)) (fun _ _ _ h => h.elim)
      have kp : Keep [(4, 1), (6, 3), (6, 4), (7, 7), (9, 5)] [24, 49, 50, 51, 52] σ0 σ8 := keep_c kp ik8 (by decide) (by decide)
      exact g_vret hF rfl d_X7_whileLoop_91 ⟨rfl, rfl, rfl, ⟨iσ8, kp⟩⟩
    · -- not taken at 17
      refine g_aload_n hF d_X7_whileLoop_20 rfl 0 rfl ?_
      refine g_aload_n hF d_X7_whileLoop_21 rfl 0 rfl ?_
      refine g_iload_n hF d_X7_whileLoop_22 rfl 2 rfl ?_
      refine g_callV (As := [.int a2]) (rest := [.ref (r 9)]) hF (c_X7_condition a g r σ0 a2 i0) (Nat.le_of_ble_eq_true rfl) mV_X7_condition m_1303 (recv_ob obC_9) rfl rfl (Nat.le_of_ble_eq_true rfl) d_X7_whileLoop_23 (k_a (fun q9 σ9 ⟨hq9, iσ9, ik9⟩ => ?_)) (fun _ _ _ h => h.elim)
      have kp : Keep [(4, 1), (6, 3), (6, 4), (7, 7), (9, 5)] [24, 49, 50, 51, 52] σ0 σ9 := keep_c kp ik9 (by decide) (by decide)
      refine g_callV (As := [.ref (r q9)]) (rest := []) hF (c_X7_exitUnless a g r σ9 q9 hq9 iσ9) (Nat.le_of_ble_eq_true rfl) mV_X7_exitUnless m_1313 (recv_ob obC_9) rfl rfl (Nat.le_of_ble_eq_true rfl) d_X7_whileLoop_26 (k_v (fun σ10 ⟨iσ10, ik10⟩ => ?_)) (fun _ _ _ h => h.elim)
      have kp : Keep [(4, 1), (6, 3), (6, 4), (7, 7), (9, 5)] [24, 49, 50, 51, 52] σ0 σ10 := keep_c kp ik10 (by decide) (by decide)
      refine g_aload_n hF d_X7_whileLoop_29 rfl 0 rfl ?_
      refine g_iload_n hF d_X7_whileLoop_30 rfl 2 rfl ?_
      refine g_callV (As := [.int a2]) (rest := []) hF (c_X7_turn a g r σ10 a2 iσ10) (Nat.le_of_ble_eq_true rfl) mV_X7_turn m_1336 (recv_ob obC_9) rfl rfl (Nat.le_of_ble_eq_true rfl) d_X7_whileLoop_31 (k_v (fun σ11 ⟨iσ11, ik11⟩ => ?_)) (fun _ _ _ h => h.elim)
      have kp : Keep [(4, 1), (6, 3), (6, 4), (7, 7), (9, 5)] [24, 49, 50, 51, 52] σ0 σ11 := keep_c kp ik11 (by decide) (by decide)
      refine g_goto hF 91 d_X7_whileLoop_34 (by decide) ?_
      exact g_vret hF rfl d_X7_whileLoop_91 ⟨rfl, rfl, rfl, ⟨iσ11, kp⟩⟩
  · -- not taken at 3
    refine g_aload_n hF d_X7_whileLoop_6 rfl 0 rfl ?_
    refine g_iconst hF (v := 1) d_X7_whileLoop_7 (by decide) ?_
    refine g_callV (As := [.int 1]) (rest := []) hF (c_X7_begin a g r σ0 (1 : Int32) i0 (Or.inr rfl)) (Nat.le_of_ble_eq_true rfl) mV_X7_begin m_1308 (recv_ob obC_9) rfl rfl (Nat.le_of_ble_eq_true rfl) d_X7_whileLoop_8 (k_v (fun σ12 ⟨iσ12, ik12⟩ => ?_)) (fun _ _ _ h => h.elim)
    have kp : Keep [(4, 1), (6, 3), (6, 4), (7, 7), (9, 5)] [24, 49, 50, 51, 52] σ0 σ12 := keep_c kp ik12 (by decide) (by decide)
    refine g_goto hF 91 d_X7_whileLoop_11 (by decide) ?_
    exact g_vret hF rfl d_X7_whileLoop_91 ⟨rfl, rfl, rfl, ⟨iσ12, kp⟩⟩
