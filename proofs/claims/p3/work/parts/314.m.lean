set_option maxHeartbeats 4000000 in
set_option maxRecDepth 100000 in
theorem c_X2_invert (a : Nat → Nat) (g : Nat → Nat → Int32) (r : Nat → Nat) (σ0 : St) (a2 : Int32) (a3 : Int32) (qa1 : Nat) (hqa1 : isOp qa1) (i0 : Inv σ0) (l : Launch) (D : va_G) (cy : Nat → ClassId) : Ct l D cy SC r (EC a g) y_X2_invert (Cond.code y_X2_invert b_X2_invert 5 none) 3 [.ref (r 7), .ref (r qa1), .int a2, .int a3] σ0 Z0 [] (QV (fun σ9 => (Inv σ9 ∧ Keep [(4, 1), (6, 3), (6, 4)] [24] σ0 σ9))) QF := by
  refine Ct_of (EC_ok a g) (by decide) (Nat.le_of_ble_eq_true rfl) (by decide) (fun X hnn hF => ?_)
  show G SC r X σ0 Z0 [] [(0, .ref (r 7)), (1, .ref (r qa1)), (2, .int a2), (3, .int a3)] [] 0
  have kp : Keep [(4, 1), (6, 3), (6, 4)] [24] σ0 σ0 := keep_rf
  refine g_iload_n hF d_X2_invert_0 rfl 2 rfl ?_
  refine g_bipush hF (v := 59) d_X2_invert_1 (by decide) ?_
  refine g_icmp_ne (yv := 59) hF 17 d_X2_invert_3 (by decide) rfl (by decide) (fun c1_3 => ?_) (fun c1_3 => ?_)
  · -- taken at 3
    refine g_aload_n hF d_X2_invert_17 rfl 1 rfl ?_
    refine g_getN hF 1 (obC_op hqa1) (by decide) nm_402 (fval_op hqa1) d_X2_invert_18 ?_
    refine g_any (fun v2 => ?_)
    refine g_if_eq hF 29 d_X2_invert_21 (by decide) rfl (fun c3_21 => ?_) (fun c3_21 => ?_)
    · -- taken at 21
      refine g_iload_n hF d_X2_invert_29 rfl 2 rfl ?_
      refine g_bipush hF (v := 59) d_X2_invert_30 (by decide) ?_
      refine g_icmp_ne (yv := 59) hF 40 d_X2_invert_32 (by decide) rfl (by decide) (fun c4_32 => ?_) (fun c4_32 => ?_)
      · -- taken at 32
        refine g_iload_n hF d_X2_invert_40 rfl 2 rfl ?_
        refine g_bipush hF (v := 60) d_X2_invert_41 (by decide) ?_
        refine g_icmp_ne (yv := 60) hF 51 d_X2_invert_43 (by decide) rfl (by decide) (fun c5_43 => ?_) (fun c5_43 => ?_)
        · -- taken at 43
          refine g_bipush hF (v := 22) d_X2_invert_51 (by decide) ?_
          refine g_istore hF [(4, .int 22), (0, .ref (r 7)), (1, .ref (r qa1)), (2, .int a2), (3, .int a3)] d_X2_invert_53 hnn (by decide) rfl ?_
          refine g_aload_n hF d_X2_invert_55 rfl 1 rfl ?_
          refine g_get (v := .ref (r 4)) hF 4 obC_7 (by decide) m_461 rfl d_X2_invert_56 ?_
          refine g_iload hF d_X2_invert_59 0 rfl ?_
          refine g_iconst hF (v := 0) d_X2_invert_61 (by decide) ?_
          refine g_iconst hF (v := 0) d_X2_invert_62 (by decide) ?_
          refine g_iconst hF (v := 0) d_X2_invert_63 (by decide) ?_
          refine g_callVN (As := [.int 22, .int 0, .int 0, .int 0]) (rest := []) hF (c_X0_emit a g r σ0 (22 : Int32) (0 : Int32) (0 : Int32) (0 : Int32) i0) (Nat.le_of_ble_eq_true rfl) mV_X0_emit nm_1071 (recv_ob obC_4) rfl rfl (Nat.le_of_ble_eq_true rfl) d_X2_invert_64 (k_i (fun r6 σ6 ⟨iσ6, ik6⟩ => ?_))
          have kp : Keep [(4, 1), (6, 3), (6, 4)] [24] σ0 σ6 := keep_c kp ik6 (by decide) (by decide)
          refine g_pop hF d_X2_invert_67 rfl ?_
          refine g_aload_n hF d_X2_invert_68 rfl 2 rfl ?_
          refine g_iload hF d_X2_invert_69 0 rfl ?_
          refine g_aload_n hF d_X2_invert_71 rfl 2 rfl ?_
          refine g_getN hF 8 (obC_op hqa1) (by decide) nm_418 (fval_op hqa1) d_X2_invert_72 ?_
          refine g_any (fun v7 => ?_)
          refine g_callSN (As := [.int 22, .int v7]) (rest := [.ref (r qa1)]) hF (c_X5_inverted a g r σ6 (22 : Int32) v7 iσ6) (Nat.le_of_ble_eq_true rfl) mS_X5_inverted nm_1266 rfl rfl (Nat.le_of_ble_eq_true rfl) d_X2_invert_75 (k_ro (fun r8 => ?_))
          refine g_putN hF 8 (obC_op hqa1) (by decide) nm_418 rfl rfl (rf_op hqa1) d_X2_invert_78 ?_
          obtain ⟨σ9, eσ9⟩ : ∃ z, z = upC σ6 qa1 8 r8 := ⟨_, rfl⟩
          rw [← eσ9]
          have ik9 : Keep [] [] σ6 σ9 := by rw [eσ9]; exact keep_op hqa1
          have kp : Keep [(4, 1), (6, 3), (6, 4)] [24] σ0 σ9 := keep_c kp ik9 (by decide) (by decide)
          have iσ9 : Inv σ9 := inv_keep ik9 iσ6
          refine g_aload_n hF d_X2_invert_81 rfl 2 rfl ?_
          refine g_iconst hF (v := 0) d_X2_invert_82 (by decide) ?_
          refine g_aload_n hF d_X2_invert_83 rfl 2 rfl ?_
          refine g_callVN (As := []) (rest := [.int 0, .ref (r qa1)]) hF (c_X6_isConstant a g r σ9 qa1 hqa1 iσ9) (Nat.le_of_ble_eq_true rfl) mV_X6_isConstant nm_1222 (recv_ob (obC_op hqa1)) rfl rfl (Nat.le_of_ble_eq_true rfl) d_X2_invert_84 (k_roz (fun r10 hz10 => ?_))
          refine g_if_eq hF 94 d_X2_invert_87 (by decide) rfl (fun c11_87 => ?_) (fun c11_87 => ?_)
          · -- taken at 87
            refine g_iconst hF (v := 0) d_X2_invert_94 (by decide) ?_
            refine g_callVN (As := [.int 0, .int 0]) (rest := []) hF (c_X6_become a g r σ9 (0 : Int32) (0 : Int32) qa1 hqa1 iσ9) (Nat.le_of_ble_eq_true rfl) mV_X6_become nm_1100 (recv_ob (obC_op hqa1)) rfl rfl (Nat.le_of_ble_eq_true rfl) d_X2_invert_95 (k_v (fun σ12 ⟨iσ12, ik12⟩ => ?_))
            have kp : Keep [(4, 1), (6, 3), (6, 4)] [24] σ0 σ12 := keep_c kp ik12 (by decide) (by decide)
            refine g_aload_n hF d_X2_invert_98 rfl 1 rfl ?_
            refine g_aload_n hF d_X2_invert_99 rfl 2 rfl ?_
            refine g_callV (As := [.ref (r qa1)]) (rest := []) hF (c_X2_fold a g r σ12 qa1 hqa1 iσ12) (Nat.le_of_ble_eq_true rfl) mV_X2_fold m_1233 (recv_ob obC_7) rfl rfl (Nat.le_of_ble_eq_true rfl) d_X2_invert_100 (k_v (fun σ13 ⟨iσ13, ik13⟩ => ?_)) (fun _ _ _ h => h.elim)
            have kp : Keep [(4, 1), (6, 3), (6, 4)] [24] σ0 σ13 := keep_c kp ik13 (by decide) (by decide)
            exact g_vret hF rfl d_X2_invert_103 ⟨rfl, rfl, rfl, ⟨iσ13, kp⟩⟩
          · -- not taken at 87
            refine g_iconst hF (v := 1) d_X2_invert_90 (by decide) ?_
            refine g_goto hF 95 d_X2_invert_91 (by decide) ?_
            refine g_callVN (As := [.int 0, .int 1]) (rest := []) hF (c_X6_become a g r σ9 (0 : Int32) (1 : Int32) qa1 hqa1 iσ9) (Nat.le_of_ble_eq_true rfl) mV_X6_become nm_1100 (recv_ob (obC_op hqa1)) rfl rfl (Nat.le_of_ble_eq_true rfl) d_X2_invert_95 (k_v (fun σ14 ⟨iσ14, ik14⟩ => ?_))
            have kp : Keep [(4, 1), (6, 3), (6, 4)] [24] σ0 σ14 := keep_c kp ik14 (by decide) (by decide)
            refine g_aload_n hF d_X2_invert_98 rfl 1 rfl ?_
            refine g_aload_n hF d_X2_invert_99 rfl 2 rfl ?_
            refine g_callV (As := [.ref (r qa1)]) (rest := []) hF (c_X2_fold a g r σ14 qa1 hqa1 iσ14) (Nat.le_of_ble_eq_true rfl) mV_X2_fold m_1233 (recv_ob obC_7) rfl rfl (Nat.le_of_ble_eq_true rfl) d_X2_invert_100 (k_v (fun σ15 ⟨iσ15, ik15⟩ => ?_)) (fun _ _ _ h => h.elim)
            have kp : Keep [(4, 1), (6, 3), (6, 4)] [24] σ0 σ15 := keep_c kp ik15 (by decide) (by decide)
            exact g_vret hF rfl d_X2_invert_103 ⟨rfl, rfl, rfl, ⟨iσ15, kp⟩⟩
        · -- not taken at 43
          refine g_bipush hF (v := 23) d_X2_invert_46 (by decide) ?_
          refine g_goto hF 53 d_X2_invert_48 (by decide) ?_
          refine g_istore hF [(4, .int 23), (0, .ref (r 7)), (1, .ref (r qa1)), (2, .int a2), (3, .int a3)] d_X2_invert_53 hnn (by decide) rfl ?_
          refine g_aload_n hF d_X2_invert_55 rfl 1 rfl ?_
          refine g_get (v := .ref (r 4)) hF 4 obC_7 (by decide) m_461 rfl d_X2_invert_56 ?_
          refine g_iload hF d_X2_invert_59 0 rfl ?_
          refine g_iconst hF (v := 0) d_X2_invert_61 (by decide) ?_
          refine g_iconst hF (v := 0) d_X2_invert_62 (by decide) ?_
          refine g_iconst hF (v := 0) d_X2_invert_63 (by decide) ?_
          refine g_callVN (As := [.int 23, .int 0, .int 0, .int 0]) (rest := []) hF (c_X0_emit a g r σ0 (23 : Int32) (0 : Int32) (0 : Int32) (0 : Int32) i0) (Nat.le_of_ble_eq_true rfl) mV_X0_emit nm_1071 (recv_ob obC_4) rfl rfl (Nat.le_of_ble_eq_true rfl) d_X2_invert_64 (k_i (fun r16 σ16 ⟨iσ16, ik16⟩ => ?_))
          have kp : Keep [(4, 1), (6, 3), (6, 4)] [24] σ0 σ16 := keep_c kp ik16 (by decide) (by decide)
          refine g_pop hF d_X2_invert_67 rfl ?_
          refine g_aload_n hF d_X2_invert_68 rfl 2 rfl ?_
          refine g_iload hF d_X2_invert_69 0 rfl ?_
          refine g_aload_n hF d_X2_invert_71 rfl 2 rfl ?_
          refine g_getN hF 8 (obC_op hqa1) (by decide) nm_418 (fval_op hqa1) d_X2_invert_72 ?_
          refine g_any (fun v17 => ?_)
          refine g_callSN (As := [.int 23, .int v17]) (rest := [.ref (r qa1)]) hF (c_X5_inverted a g r σ16 (23 : Int32) v17 iσ16) (Nat.le_of_ble_eq_true rfl) mS_X5_inverted nm_1266 rfl rfl (Nat.le_of_ble_eq_true rfl) d_X2_invert_75 (k_ro (fun r18 => ?_))
          refine g_putN hF 8 (obC_op hqa1) (by decide) nm_418 rfl rfl (rf_op hqa1) d_X2_invert_78 ?_
          obtain ⟨σ19, eσ19⟩ : ∃ z, z = upC σ16 qa1 8 r18 := ⟨_, rfl⟩
          rw [← eσ19]
          have ik19 : Keep [] [] σ16 σ19 := by rw [eσ19]; exact keep_op hqa1
          have kp : Keep [(4, 1), (6, 3), (6, 4)] [24] σ0 σ19 := keep_c kp ik19 (by decide) (by decide)
          have iσ19 : Inv σ19 := inv_keep ik19 iσ16
          refine g_aload_n hF d_X2_invert_81 rfl 2 rfl ?_
          refine g_iconst hF (v := 0) d_X2_invert_82 (by decide) ?_
          refine g_aload_n hF d_X2_invert_83 rfl 2 rfl ?_
          refine g_callVN (As := []) (rest := [.int 0, .ref (r qa1)]) hF (c_X6_isConstant a g r σ19 qa1 hqa1 iσ19) (Nat.le_of_ble_eq_true rfl) mV_X6_isConstant nm_1222 (recv_ob (obC_op hqa1)) rfl rfl (Nat.le_of_ble_eq_true rfl) d_X2_invert_84 (k_roz (fun r20 hz20 => ?_))
          refine g_if_eq hF 94 d_X2_invert_87 (by decide) rfl (fun c21_87 => ?_) (fun c21_87 => ?_)
          · -- taken at 87
            refine g_iconst hF (v := 0) d_X2_invert_94 (by decide) ?_
            refine g_callVN (As := [.int 0, .int 0]) (rest := []) hF (c_X6_become a g r σ19 (0 : Int32) (0 : Int32) qa1 hqa1 iσ19) (Nat.le_of_ble_eq_true rfl) mV_X6_become nm_1100 (recv_ob (obC_op hqa1)) rfl rfl (Nat.le_of_ble_eq_true rfl) d_X2_invert_95 (k_v (fun σ22 ⟨iσ22, ik22⟩ => ?_))
            have kp : Keep [(4, 1), (6, 3), (6, 4)] [24] σ0 σ22 := keep_c kp ik22 (by decide) (by decide)
            refine g_aload_n hF d_X2_invert_98 rfl 1 rfl ?_
            refine g_aload_n hF d_X2_invert_99 rfl 2 rfl ?_
            refine g_callV (As := [.ref (r qa1)]) (rest := []) hF (c_X2_fold a g r σ22 qa1 hqa1 iσ22) (Nat.le_of_ble_eq_true rfl) mV_X2_fold m_1233 (recv_ob obC_7) rfl rfl (Nat.le_of_ble_eq_true rfl) d_X2_invert_100 (k_v (fun σ23 ⟨iσ23, ik23⟩ => ?_)) (fun _ _ _ h => h.elim)
            have kp : Keep [(4, 1), (6, 3), (6, 4)] [24] σ0 σ23 := keep_c kp ik23 (by decide) (by decide)
            exact g_vret hF rfl d_X2_invert_103 ⟨rfl, rfl, rfl, ⟨iσ23, kp⟩⟩
          · -- not taken at 87
            refine g_iconst hF (v := 1) d_X2_invert_90 (by decide) ?_
            refine g_goto hF 95 d_X2_invert_91 (by decide) ?_
            refine g_callVN (As := [.int 0, .int 1]) (rest := []) hF (c_X6_become a g r σ19 (0 : Int32) (1 : Int32) qa1 hqa1 iσ19) (Nat.le_of_ble_eq_true rfl) mV_X6_become nm_1100 (recv_ob (obC_op hqa1)) rfl rfl (Nat.le_of_ble_eq_true rfl) d_X2_invert_95 (k_v (fun σ24 ⟨iσ24, ik24⟩ => ?_))
            have kp : Keep [(4, 1), (6, 3), (6, 4)] [24] σ0 σ24 := keep_c kp ik24 (by decide) (by decide)
            refine g_aload_n hF d_X2_invert_98 rfl 1 rfl ?_
            refine g_aload_n hF d_X2_invert_99 rfl 2 rfl ?_
            refine g_callV (As := [.ref (r qa1)]) (rest := []) hF (c_X2_fold a g r σ24 qa1 hqa1 iσ24) (Nat.le_of_ble_eq_true rfl) mV_X2_fold m_1233 (recv_ob obC_7) rfl rfl (Nat.le_of_ble_eq_true rfl) d_X2_invert_100 (k_v (fun σ25 ⟨iσ25, ik25⟩ => ?_)) (fun _ _ _ h => h.elim)
            have kp : Keep [(4, 1), (6, 3), (6, 4)] [24] σ0 σ25 := keep_c kp ik25 (by decide) (by decide)
            exact g_vret hF rfl d_X2_invert_103 ⟨rfl, rfl, rfl, ⟨iσ25, kp⟩⟩
      · -- not taken at 32
        refine g_bipush hF (v := 24) d_X2_invert_35 (by decide) ?_
        refine g_goto hF 53 d_X2_invert_37 (by decide) ?_
        refine g_istore hF [(4, .int 24), (0, .ref (r 7)), (1, .ref (r qa1)), (2, .int a2), (3, .int a3)] d_X2_invert_53 hnn (by decide) rfl ?_
        refine g_aload_n hF d_X2_invert_55 rfl 1 rfl ?_
        refine g_get (v := .ref (r 4)) hF 4 obC_7 (by decide) m_461 rfl d_X2_invert_56 ?_
        refine g_iload hF d_X2_invert_59 0 rfl ?_
        refine g_iconst hF (v := 0) d_X2_invert_61 (by decide) ?_
        refine g_iconst hF (v := 0) d_X2_invert_62 (by decide) ?_
        refine g_iconst hF (v := 0) d_X2_invert_63 (by decide) ?_
        refine g_callVN (As := [.int 24, .int 0, .int 0, .int 0]) (rest := []) hF (c_X0_emit a g r σ0 (24 : Int32) (0 : Int32) (0 : Int32) (0 : Int32) i0) (Nat.le_of_ble_eq_true rfl) mV_X0_emit nm_1071 (recv_ob obC_4) rfl rfl (Nat.le_of_ble_eq_true rfl) d_X2_invert_64 (k_i (fun r26 σ26 ⟨iσ26, ik26⟩ => ?_))
        have kp : Keep [(4, 1), (6, 3), (6, 4)] [24] σ0 σ26 := keep_c kp ik26 (by decide) (by decide)
        refine g_pop hF d_X2_invert_67 rfl ?_
        refine g_aload_n hF d_X2_invert_68 rfl 2 rfl ?_
        refine g_iload hF d_X2_invert_69 0 rfl ?_
        refine g_aload_n hF d_X2_invert_71 rfl 2 rfl ?_
        refine g_getN hF 8 (obC_op hqa1) (by decide) nm_418 (fval_op hqa1) d_X2_invert_72 ?_
        refine g_any (fun v27 => ?_)
        refine g_callSN (As := [.int 24, .int v27]) (rest := [.ref (r qa1)]) hF (c_X5_inverted a g r σ26 (24 : Int32) v27 iσ26) (Nat.le_of_ble_eq_true rfl) mS_X5_inverted nm_1266 rfl rfl (Nat.le_of_ble_eq_true rfl) d_X2_invert_75 (k_ro (fun r28 => ?_))
        refine g_putN hF 8 (obC_op hqa1) (by decide) nm_418 rfl rfl (rf_op hqa1) d_X2_invert_78 ?_
        obtain ⟨σ29, eσ29⟩ : ∃ z, z = upC σ26 qa1 8 r28 := ⟨_, rfl⟩
        rw [← eσ29]
        have ik29 : Keep [] [] σ26 σ29 := by rw [eσ29]; exact keep_op hqa1
        have kp : Keep [(4, 1), (6, 3), (6, 4)] [24] σ0 σ29 := keep_c kp ik29 (by decide) (by decide)
        have iσ29 : Inv σ29 := inv_keep ik29 iσ26
        refine g_aload_n hF d_X2_invert_81 rfl 2 rfl ?_
        refine g_iconst hF (v := 0) d_X2_invert_82 (by decide) ?_
        refine g_aload_n hF d_X2_invert_83 rfl 2 rfl ?_
        refine g_callVN (As := []) (rest := [.int 0, .ref (r qa1)]) hF (c_X6_isConstant a g r σ29 qa1 hqa1 iσ29) (Nat.le_of_ble_eq_true rfl) mV_X6_isConstant nm_1222 (recv_ob (obC_op hqa1)) rfl rfl (Nat.le_of_ble_eq_true rfl) d_X2_invert_84 (k_roz (fun r30 hz30 => ?_))
        refine g_if_eq hF 94 d_X2_invert_87 (by decide) rfl (fun c31_87 => ?_) (fun c31_87 => ?_)
        · -- taken at 87
          refine g_iconst hF (v := 0) d_X2_invert_94 (by decide) ?_
          refine g_callVN (As := [.int 0, .int 0]) (rest := []) hF (c_X6_become a g r σ29 (0 : Int32) (0 : Int32) qa1 hqa1 iσ29) (Nat.le_of_ble_eq_true rfl) mV_X6_become nm_1100 (recv_ob (obC_op hqa1)) rfl rfl (Nat.le_of_ble_eq_true rfl) d_X2_invert_95 (k_v (fun σ32 ⟨iσ32, ik32⟩ => ?_))
          have kp : Keep [(4, 1), (6, 3), (6, 4)] [24] σ0 σ32 := keep_c kp ik32 (by decide) (by decide)
          refine g_aload_n hF d_X2_invert_98 rfl 1 rfl ?_
          refine g_aload_n hF d_X2_invert_99 rfl 2 rfl ?_
          refine g_callV (As := [.ref (r qa1)]) (rest := []) hF (c_X2_fold a g r σ32 qa1 hqa1 iσ32) (Nat.le_of_ble_eq_true rfl) mV_X2_fold m_1233 (recv_ob obC_7) rfl rfl (Nat.le_of_ble_eq_true rfl) d_X2_invert_100 (k_v (fun σ33 ⟨iσ33, ik33⟩ => ?_)) (fun _ _ _ h => h.elim)
          have kp : Keep [(4, 1), (6, 3), (6, 4)] [24] σ0 σ33 := keep_c kp ik33 (by decide) (by decide)
          exact g_vret hF rfl d_X2_invert_103 ⟨rfl, rfl, rfl, ⟨iσ33, kp⟩⟩
        · -- not taken at 87
          refine g_iconst hF (v := 1) d_X2_invert_90 (by decide) ?_
          refine g_goto hF 95 d_X2_invert_91 (by decide) ?_
          refine g_callVN (As := [.int 0, .int 1]) (rest := []) hF (c_X6_become a g r σ29 (0 : Int32) (1 : Int32) qa1 hqa1 iσ29) (Nat.le_of_ble_eq_true rfl) mV_X6_become nm_1100 (recv_ob (obC_op hqa1)) rfl rfl (Nat.le_of_ble_eq_true rfl) d_X2_invert_95 (k_v (fun σ34 ⟨iσ34, ik34⟩ => ?_))
          have kp : Keep [(4, 1), (6, 3), (6, 4)] [24] σ0 σ34 := keep_c kp ik34 (by decide) (by decide)
          refine g_aload_n hF d_X2_invert_98 rfl 1 rfl ?_
          refine g_aload_n hF d_X2_invert_99 rfl 2 rfl ?_
          refine g_callV (As := [.ref (r qa1)]) (rest := []) hF (c_X2_fold a g r σ34 qa1 hqa1 iσ34) (Nat.le_of_ble_eq_true rfl) mV_X2_fold m_1233 (recv_ob obC_7) rfl rfl (Nat.le_of_ble_eq_true rfl) d_X2_invert_100 (k_v (fun σ35 ⟨iσ35, ik35⟩ => ?_)) (fun _ _ _ h => h.elim)
          have kp : Keep [(4, 1), (6, 3), (6, 4)] [24] σ0 σ35 := keep_c kp ik35 (by decide) (by decide)
          exact g_vret hF rfl d_X2_invert_103 ⟨rfl, rfl, rfl, ⟨iσ35, kp⟩⟩
    · -- not taken at 21
      refine g_aload_n hF d_X2_invert_24 rfl 0 rfl ?_
      refine g_iload_n hF d_X2_invert_25 rfl 3 rfl ?_
      refine g_callV (As := [.int a3]) (rest := []) hF (c_X2_refuse a g r σ0 a3 i0) (Nat.le_of_ble_eq_true rfl) mV_X2_refuse m_1126 (recv_ob obC_7) rfl rfl (Nat.le_of_ble_eq_true rfl) d_X2_invert_26 (k_v (fun σ36 ⟨iσ36, ik36⟩ => ?_)) (fun _ _ _ h => h.elim)
      have kp : Keep [(4, 1), (6, 3), (6, 4)] [24] σ0 σ36 := keep_c kp ik36 (by decide) (by decide)
      refine g_iload_n hF d_X2_invert_29 rfl 2 rfl ?_
      refine g_bipush hF (v := 59) d_X2_invert_30 (by decide) ?_
      refine g_icmp_ne (yv := 59) hF 40 d_X2_invert_32 (by decide) rfl (by decide) (fun c37_32 => ?_) (fun c37_32 => ?_)
      · -- taken at 32
        refine g_iload_n hF d_X2_invert_40 rfl 2 rfl ?_
        refine g_bipush hF (v := 60) d_X2_invert_41 (by decide) ?_
        refine g_icmp_ne (yv := 60) hF 51 d_X2_invert_43 (by decide) rfl (by decide) (fun c38_43 => ?_) (fun c38_43 => ?_)
        · -- taken at 43
          refine g_bipush hF (v := 22) d_X2_invert_51 (by decide) ?_
          refine g_istore hF [(4, .int 22), (0, .ref (r 7)), (1, .ref (r qa1)), (2, .int a2), (3, .int a3)] d_X2_invert_53 hnn (by decide) rfl ?_
          refine g_aload_n hF d_X2_invert_55 rfl 1 rfl ?_
          refine g_get (v := .ref (r 4)) hF 4 obC_7 (by decide) m_461 rfl d_X2_invert_56 ?_
          refine g_iload hF d_X2_invert_59 0 rfl ?_
          refine g_iconst hF (v := 0) d_X2_invert_61 (by decide) ?_
          refine g_iconst hF (v := 0) d_X2_invert_62 (by decide) ?_
          refine g_iconst hF (v := 0) d_X2_invert_63 (by decide) ?_
          refine g_callVN (As := [.int 22, .int 0, .int 0, .int 0]) (rest := []) hF (c_X0_emit a g r σ36 (22 : Int32) (0 : Int32) (0 : Int32) (0 : Int32) iσ36) (Nat.le_of_ble_eq_true rfl) mV_X0_emit nm_1071 (recv_ob obC_4) rfl rfl (Nat.le_of_ble_eq_true rfl) d_X2_invert_64 (k_i (fun r39 σ39 ⟨iσ39, ik39⟩ => ?_))
          have kp : Keep [(4, 1), (6, 3), (6, 4)] [24] σ0 σ39 := keep_c kp ik39 (by decide) (by decide)
          refine g_pop hF d_X2_invert_67 rfl ?_
          refine g_aload_n hF d_X2_invert_68 rfl 2 rfl ?_
          refine g_iload hF d_X2_invert_69 0 rfl ?_
          refine g_aload_n hF d_X2_invert_71 rfl 2 rfl ?_
          refine g_getN hF 8 (obC_op hqa1) (by decide) nm_418 (fval_op hqa1) d_X2_invert_72 ?_
          refine g_any (fun v40 => ?_)
          refine g_callSN (As := [.int 22, .int v40]) (rest := [.ref (r qa1)]) hF (c_X5_inverted a g r σ39 (22 : Int32) v40 iσ39) (Nat.le_of_ble_eq_true rfl) mS_X5_inverted nm_1266 rfl rfl (Nat.le_of_ble_eq_true rfl) d_X2_invert_75 (k_ro (fun r41 => ?_))
          refine g_putN hF 8 (obC_op hqa1) (by decide) nm_418 rfl rfl (rf_op hqa1) d_X2_invert_78 ?_
          obtain ⟨σ42, eσ42⟩ : ∃ z, z = upC σ39 qa1 8 r41 := ⟨_, rfl⟩
          rw [← eσ42]
          have ik42 : Keep [] [] σ39 σ42 := by rw [eσ42]; exact keep_op hqa1
          have kp : Keep [(4, 1), (6, 3), (6, 4)] [24] σ0 σ42 := keep_c kp ik42 (by decide) (by decide)
          have iσ42 : Inv σ42 := inv_keep ik42 iσ39
          refine g_aload_n hF d_X2_invert_81 rfl 2 rfl ?_
          refine g_iconst hF (v := 0) d_X2_invert_82 (by decide) ?_
          refine g_aload_n hF d_X2_invert_83 rfl 2 rfl ?_
          refine g_callVN (As := []) (rest := [.int 0, .ref (r qa1)]) hF (c_X6_isConstant a g r σ42 qa1 hqa1 iσ42) (Nat.le_of_ble_eq_true rfl) mV_X6_isConstant nm_1222 (recv_ob (obC_op hqa1)) rfl rfl (Nat.le_of_ble_eq_true rfl) d_X2_invert_84 (k_roz (fun r43 hz43 => ?_))
          refine g_if_eq hF 94 d_X2_invert_87 (by decide) rfl (fun c44_87 => ?_) (fun c44_87 => ?_)
          · -- taken at 87
            refine g_iconst hF (v := 0) d_X2_invert_94 (by decide) ?_
            refine g_callVN (As := [.int 0, .int 0]) (rest := []) hF (c_X6_become a g r σ42 (0 : Int32) (0 : Int32) qa1 hqa1 iσ42) (Nat.le_of_ble_eq_true rfl) mV_X6_become nm_1100 (recv_ob (obC_op hqa1)) rfl rfl (Nat.le_of_ble_eq_true rfl) d_X2_invert_95 (k_v (fun σ45 ⟨iσ45, ik45⟩ => ?_))
            have kp : Keep [(4, 1), (6, 3), (6, 4)] [24] σ0 σ45 := keep_c kp ik45 (by decide) (by decide)
            refine g_aload_n hF d_X2_invert_98 rfl 1 rfl ?_
            refine g_aload_n hF d_X2_invert_99 rfl 2 rfl ?_
            refine g_callV (As := [.ref (r qa1)]) (rest := []) hF (c_X2_fold a g r σ45 qa1 hqa1 iσ45) (Nat.le_of_ble_eq_true rfl) mV_X2_fold m_1233 (recv_ob obC_7) rfl rfl (Nat.le_of_ble_eq_true rfl) d_X2_invert_100 (k_v (fun σ46 ⟨iσ46, ik46⟩ => ?_)) (fun _ _ _ h => h.elim)
            have kp : Keep [(4, 1), (6, 3), (6, 4)] [24] σ0 σ46 := keep_c kp ik46 (by decide) (by decide)
            exact g_vret hF rfl d_X2_invert_103 ⟨rfl, rfl, rfl, ⟨iσ46, kp⟩⟩
          · -- not taken at 87
            refine g_iconst hF (v := 1) d_X2_invert_90 (by decide) ?_
            refine g_goto hF 95 d_X2_invert_91 (by decide) ?_
            refine g_callVN (As := [.int 0, .int 1]) (rest := []) hF (c_X6_become a g r σ42 (0 : Int32) (1 : Int32) qa1 hqa1 iσ42) (Nat.le_of_ble_eq_true rfl) mV_X6_become nm_1100 (recv_ob (obC_op hqa1)) rfl rfl (Nat.le_of_ble_eq_true rfl) d_X2_invert_95 (k_v (fun σ47 ⟨iσ47, ik47⟩ => ?_))
            have kp : Keep [(4, 1), (6, 3), (6, 4)] [24] σ0 σ47 := keep_c kp ik47 (by decide) (by decide)
            refine g_aload_n hF d_X2_invert_98 rfl 1 rfl ?_
            refine g_aload_n hF d_X2_invert_99 rfl 2 rfl ?_
            refine g_callV (As := [.ref (r qa1)]) (rest := []) hF (c_X2_fold a g r σ47 qa1 hqa1 iσ47) (Nat.le_of_ble_eq_true rfl) mV_X2_fold m_1233 (recv_ob obC_7) rfl rfl (Nat.le_of_ble_eq_true rfl) d_X2_invert_100 (k_v (fun σ48 ⟨iσ48, ik48⟩ => ?_)) (fun _ _ _ h => h.elim)
            have kp : Keep [(4, 1), (6, 3), (6, 4)] [24] σ0 σ48 := keep_c kp ik48 (by decide) (by decide)
            exact g_vret hF rfl d_X2_invert_103 ⟨rfl, rfl, rfl, ⟨iσ48, kp⟩⟩
        · -- not taken at 43
          refine g_bipush hF (v := 23) d_X2_invert_46 (by decide) ?_
          refine g_goto hF 53 d_X2_invert_48 (by decide) ?_
          refine g_istore hF [(4, .int 23), (0, .ref (r 7)), (1, .ref (r qa1)), (2, .int a2), (3, .int a3)] d_X2_invert_53 hnn (by decide) rfl ?_
          refine g_aload_n hF d_X2_invert_55 rfl 1 rfl ?_
          refine g_get (v := .ref (r 4)) hF 4 obC_7 (by decide) m_461 rfl d_X2_invert_56 ?_
          refine g_iload hF d_X2_invert_59 0 rfl ?_
          refine g_iconst hF (v := 0) d_X2_invert_61 (by decide) ?_
          refine g_iconst hF (v := 0) d_X2_invert_62 (by decide) ?_
          refine g_iconst hF (v := 0) d_X2_invert_63 (by decide) ?_
          refine g_callVN (As := [.int 23, .int 0, .int 0, .int 0]) (rest := []) hF (c_X0_emit a g r σ36 (23 : Int32) (0 : Int32) (0 : Int32) (0 : Int32) iσ36) (Nat.le_of_ble_eq_true rfl) mV_X0_emit nm_1071 (recv_ob obC_4) rfl rfl (Nat.le_of_ble_eq_true rfl) d_X2_invert_64 (k_i (fun r49 σ49 ⟨iσ49, ik49⟩ => ?_))
          have kp : Keep [(4, 1), (6, 3), (6, 4)] [24] σ0 σ49 := keep_c kp ik49 (by decide) (by decide)
          refine g_pop hF d_X2_invert_67 rfl ?_
          refine g_aload_n hF d_X2_invert_68 rfl 2 rfl ?_
          refine g_iload hF d_X2_invert_69 0 rfl ?_
          refine g_aload_n hF d_X2_invert_71 rfl 2 rfl ?_
          refine g_getN hF 8 (obC_op hqa1) (by decide) nm_418 (fval_op hqa1) d_X2_invert_72 ?_
          refine g_any (fun v50 => ?_)
          refine g_callSN (As := [.int 23, .int v50]) (rest := [.ref (r qa1)]) hF (c_X5_inverted a g r σ49 (23 : Int32) v50 iσ49) (Nat.le_of_ble_eq_true rfl) mS_X5_inverted nm_1266 rfl rfl (Nat.le_of_ble_eq_true rfl) d_X2_invert_75 (k_ro (fun r51 => ?_))
          refine g_putN hF 8 (obC_op hqa1) (by decide) nm_418 rfl rfl (rf_op hqa1) d_X2_invert_78 ?_
          obtain ⟨σ52, eσ52⟩ : ∃ z, z = upC σ49 qa1 8 r51 := ⟨_, rfl⟩
          rw [← eσ52]
          have ik52 : Keep [] [] σ49 σ52 := by rw [eσ52]; exact keep_op hqa1
          have kp : Keep [(4, 1), (6, 3), (6, 4)] [24] σ0 σ52 := keep_c kp ik52 (by decide) (by decide)
          have iσ52 : Inv σ52 := inv_keep ik52 iσ49
          refine g_aload_n hF d_X2_invert_81 rfl 2 rfl ?_
          refine g_iconst hF (v := 0) d_X2_invert_82 (by decide) ?_
          refine g_aload_n hF d_X2_invert_83 rfl 2 rfl ?_
          refine g_callVN (As := []) (rest := [.int 0, .ref (r qa1)]) hF (c_X6_isConstant a g r σ52 qa1 hqa1 iσ52) (Nat.le_of_ble_eq_true rfl) mV_X6_isConstant nm_1222 (recv_ob (obC_op hqa1)) rfl rfl (Nat.le_of_ble_eq_true rfl) d_X2_invert_84 (k_roz (fun r53 hz53 => ?_))
          refine g_if_eq hF 94 d_X2_invert_87 (by decide) rfl (fun c54_87 => ?_) (fun c54_87 => ?_)
          · -- taken at 87
            refine g_iconst hF (v := 0) d_X2_invert_94 (by decide) ?_
            refine g_callVN (As := [.int 0, .int 0]) (rest := []) hF (c_X6_become a g r σ52 (0 : Int32) (0 : Int32) qa1 hqa1 iσ52) (Nat.le_of_ble_eq_true rfl) mV_X6_become nm_1100 (recv_ob (obC_op hqa1)) rfl rfl (Nat.le_of_ble_eq_true rfl) d_X2_invert_95 (k_v (fun σ55 ⟨iσ55, ik55⟩ => ?_))
            have kp : Keep [(4, 1), (6, 3), (6, 4)] [24] σ0 σ55 := keep_c kp ik55 (by decide) (by decide)
            refine g_aload_n hF d_X2_invert_98 rfl 1 rfl ?_
            refine g_aload_n hF d_X2_invert_99 rfl 2 rfl ?_
            refine g_callV (As := [.ref (r qa1)]) (rest := []) hF (c_X2_fold a g r σ55 qa1 hqa1 iσ55) (Nat.le_of_ble_eq_true rfl) mV_X2_fold m_1233 (recv_ob obC_7) rfl rfl (Nat.le_of_ble_eq_true rfl) d_X2_invert_100 (k_v (fun σ56 ⟨iσ56, ik56⟩ => ?_)) (fun _ _ _ h => h.elim)
            have kp : Keep [(4, 1), (6, 3), (6, 4)] [24] σ0 σ56 := keep_c kp ik56 (by decide) (by decide)
            exact g_vret hF rfl d_X2_invert_103 ⟨rfl, rfl, rfl, ⟨iσ56, kp⟩⟩
          · -- not taken at 87
            refine g_iconst hF (v := 1) d_X2_invert_90 (by decide) ?_
            refine g_goto hF 95 d_X2_invert_91 (by decide) ?_
            refine g_callVN (As := [.int 0, .int 1]) (rest := []) hF (c_X6_become a g r σ52 (0 : Int32) (1 : Int32) qa1 hqa1 iσ52) (Nat.le_of_ble_eq_true rfl) mV_X6_become nm_1100 (recv_ob (obC_op hqa1)) rfl rfl (Nat.le_of_ble_eq_true rfl) d_X2_invert_95 (k_v (fun σ57 ⟨iσ57, ik57⟩ => ?_))
            have kp : Keep [(4, 1), (6, 3), (6, 4)] [24] σ0 σ57 := keep_c kp ik57 (by decide) (by decide)
            refine g_aload_n hF d_X2_invert_98 rfl 1 rfl ?_
            refine g_aload_n hF d_X2_invert_99 rfl 2 rfl ?_
            refine g_callV (As := [.ref (r qa1)]) (rest := []) hF (c_X2_fold a g r σ57 qa1 hqa1 iσ57) (Nat.le_of_ble_eq_true rfl) mV_X2_fold m_1233 (recv_ob obC_7) rfl rfl (Nat.le_of_ble_eq_true rfl) d_X2_invert_100 (k_v (fun σ58 ⟨iσ58, ik58⟩ => ?_)) (fun _ _ _ h => h.elim)
            have kp : Keep [(4, 1), (6, 3), (6, 4)] [24] σ0 σ58 := keep_c kp ik58 (by decide) (by decide)
            exact g_vret hF rfl d_X2_invert_103 ⟨rfl, rfl, rfl, ⟨iσ58, kp⟩⟩
      · -- not taken at 32
        refine g_bipush hF (v := 24) d_X2_invert_35 (by decide) ?_
        refine g_goto hF 53 d_X2_invert_37 (by decide) ?_
        refine g_istore hF [(4, .int 24), (0, .ref (r 7)), (1, .ref (r qa1)), (2, .int a2), (3, .int a3)] d_X2_invert_53 hnn (by decide) rfl ?_
        refine g_aload_n hF d_X2_invert_55 rfl 1 rfl ?_
        refine g_get (v := .ref (r 4)) hF 4 obC_7 (by decide) m_461 rfl d_X2_invert_56 ?_
        refine g_iload hF d_X2_invert_59 0 rfl ?_
        refine g_iconst hF (v := 0) d_X2_invert_61 (by decide) ?_
        refine g_iconst hF (v := 0) d_X2_invert_62 (by decide) ?_
        refine g_iconst hF (v := 0) d_X2_invert_63 (by decide) ?_
        refine g_callVN (As := [.int 24, .int 0, .int 0, .int 0]) (rest := []) hF (c_X0_emit a g r σ36 (24 : Int32) (0 : Int32) (0 : Int32) (0 : Int32) iσ36) (Nat.le_of_ble_eq_true rfl) mV_X0_emit nm_1071 (recv_ob obC_4) rfl rfl (Nat.le_of_ble_eq_true rfl) d_X2_invert_64 (k_i (fun r59 σ59 ⟨iσ59, ik59⟩ => ?_))
        have kp : Keep [(4, 1), (6, 3), (6, 4)] [24] σ0 σ59 := keep_c kp ik59 (by decide) (by decide)
        refine g_pop hF d_X2_invert_67 rfl ?_
        refine g_aload_n hF d_X2_invert_68 rfl 2 rfl ?_
        refine g_iload hF d_X2_invert_69 0 rfl ?_
        refine g_aload_n hF d_X2_invert_71 rfl 2 rfl ?_
        refine g_getN hF 8 (obC_op hqa1) (by decide) nm_418 (fval_op hqa1) d_X2_invert_72 ?_
        refine g_any (fun v60 => ?_)
        refine g_callSN (As := [.int 24, .int v60]) (rest := [.ref (r qa1)]) hF (c_X5_inverted a g r σ59 (24 : Int32) v60 iσ59) (Nat.le_of_ble_eq_true rfl) mS_X5_inverted nm_1266 rfl rfl (Nat.le_of_ble_eq_true rfl) d_X2_invert_75 (k_ro (fun r61 => ?_))
        refine g_putN hF 8 (obC_op hqa1) (by decide) nm_418 rfl rfl (rf_op hqa1) d_X2_invert_78 ?_
        obtain ⟨σ62, eσ62⟩ : ∃ z, z = upC σ59 qa1 8 r61 := ⟨_, rfl⟩
        rw [← eσ62]
        have ik62 : Keep [] [] σ59 σ62 := by rw [eσ62]; exact keep_op hqa1
        have kp : Keep [(4, 1), (6, 3), (6, 4)] [24] σ0 σ62 := keep_c kp ik62 (by decide) (by decide)
        have iσ62 : Inv σ62 := inv_keep ik62 iσ59
        refine g_aload_n hF d_X2_invert_81 rfl 2 rfl ?_
        refine g_iconst hF (v := 0) d_X2_invert_82 (by decide) ?_
        refine g_aload_n hF d_X2_invert_83 rfl 2 rfl ?_
        refine g_callVN (As := []) (rest := [.int 0, .ref (r qa1)]) hF (c_X6_isConstant a g r σ62 qa1 hqa1 iσ62) (Nat.le_of_ble_eq_true rfl) mV_X6_isConstant nm_1222 (recv_ob (obC_op hqa1)) rfl rfl (Nat.le_of_ble_eq_true rfl) d_X2_invert_84 (k_roz (fun r63 hz63 => ?_))
        refine g_if_eq hF 94 d_X2_invert_87 (by decide) rfl (fun c64_87 => ?_) (fun c64_87 => ?_)
        · -- taken at 87
          refine g_iconst hF (v := 0) d_X2_invert_94 (by decide) ?_
          refine g_callVN (As := [.int 0, .int 0]) (rest := []) hF (c_X6_become a g r σ62 (0 : Int32) (0 : Int32) qa1 hqa1 iσ62) (Nat.le_of_ble_eq_true rfl) mV_X6_become nm_1100 (recv_ob (obC_op hqa1)) rfl rfl (Nat.le_of_ble_eq_true rfl) d_X2_invert_95 (k_v (fun σ65 ⟨iσ65, ik65⟩ => ?_))
          have kp : Keep [(4, 1), (6, 3), (6, 4)] [24] σ0 σ65 := keep_c kp ik65 (by decide) (by decide)
          refine g_aload_n hF d_X2_invert_98 rfl 1 rfl ?_
          refine g_aload_n hF d_X2_invert_99 rfl 2 rfl ?_
          refine g_callV (As := [.ref (r qa1)]) (rest := []) hF (c_X2_fold a g r σ65 qa1 hqa1 iσ65) (Nat.le_of_ble_eq_true rfl) mV_X2_fold m_1233 (recv_ob obC_7) rfl rfl (Nat.le_of_ble_eq_true rfl) d_X2_invert_100 (k_v (fun σ66 ⟨iσ66, ik66⟩ => ?_)) (fun _ _ _ h => h.elim)
          have kp : Keep [(4, 1), (6, 3), (6, 4)] [24] σ0 σ66 := keep_c kp ik66 (by decide) (by decide)
          exact g_vret hF rfl d_X2_invert_103 ⟨rfl, rfl, rfl, ⟨iσ66, kp⟩⟩
        · -- not taken at 87
          refine g_iconst hF (v := 1) d_X2_invert_90 (by decide) ?_
          refine g_goto hF 95 d_X2_invert_91 (by decide) ?_
          refine g_callVN (As := [.int 0, .int 1]) (rest := []) hF (c_X6_become a g r σ62 (0 : Int32) (1 : Int32) qa1 hqa1 iσ62) (Nat.le_of_ble_eq_true rfl) mV_X6_become nm_1100 (recv_ob (obC_op hqa1)) rfl rfl (Nat.le_of_ble_eq_true rfl) d_X2_invert_95 (k_v (fun σ67 ⟨iσ67, ik67⟩ => ?_))
          have kp : Keep [(4, 1), (6, 3), (6, 4)] [24] σ0 σ67 := keep_c kp ik67 (by decide) (by decide)
          refine g_aload_n hF d_X2_invert_98 rfl 1 rfl ?_
          refine g_aload_n hF d_X2_invert_99 rfl 2 rfl ?_
          refine g_callV (As := [.ref (r qa1)]) (rest := []) hF (c_X2_fold a g r σ67 qa1 hqa1 iσ67) (Nat.le_of_ble_eq_true rfl) mV_X2_fold m_1233 (recv_ob obC_7) rfl rfl (Nat.le_of_ble_eq_true rfl) d_X2_invert_100 (k_v (fun σ68 ⟨iσ68, ik68⟩ => ?_)) (fun _ _ _ h => h.elim)
          have kp : Keep [(4, 1), (6, 3), (6, 4)] [24] σ0 σ68 := keep_c kp ik68 (by decide) (by decide)
          exact g_vret hF rfl d_X2_invert_103 ⟨rfl, rfl, rfl, ⟨iσ68, kp⟩⟩
  · -- not taken at 3
    refine g_aload_n hF d_X2_invert_6 rfl 1 rfl ?_
    refine g_getN hF 1 (obC_op hqa1) (by decide) nm_402 (fval_op hqa1) d_X2_invert_7 ?_
    refine g_any (fun v69 => ?_)
    refine g_iconst hF (v := (-1)) d_X2_invert_10 (by decide) ?_
    refine g_icmp_ne (yv := -1) hF 29 d_X2_invert_11 (by decide) rfl (by decide) (fun c70_11 => ?_) (fun c70_11 => ?_)
    · -- taken at 11
      refine g_iload_n hF d_X2_invert_29 rfl 2 rfl ?_
      refine g_bipush hF (v := 59) d_X2_invert_30 (by decide) ?_
      refine g_icmp_ne (yv := 59) hF 40 d_X2_invert_32 (by decide) rfl (by decide) (fun c71_32 => ?_) (fun c71_32 => ?_)
      · -- taken at 32
        refine g_iload_n hF d_X2_invert_40 rfl 2 rfl ?_
        refine g_bipush hF (v := 60) d_X2_invert_41 (by decide) ?_
        refine g_icmp_ne (yv := 60) hF 51 d_X2_invert_43 (by decide) rfl (by decide) (fun c72_43 => ?_) (fun c72_43 => ?_)
        · -- taken at 43
          refine g_bipush hF (v := 22) d_X2_invert_51 (by decide) ?_
          refine g_istore hF [(4, .int 22), (0, .ref (r 7)), (1, .ref (r qa1)), (2, .int a2), (3, .int a3)] d_X2_invert_53 hnn (by decide) rfl ?_
          refine g_aload_n hF d_X2_invert_55 rfl 1 rfl ?_
          refine g_get (v := .ref (r 4)) hF 4 obC_7 (by decide) m_461 rfl d_X2_invert_56 ?_
          refine g_iload hF d_X2_invert_59 0 rfl ?_
          refine g_iconst hF (v := 0) d_X2_invert_61 (by decide) ?_
          refine g_iconst hF (v := 0) d_X2_invert_62 (by decide) ?_
          refine g_iconst hF (v := 0) d_X2_invert_63 (by decide) ?_
          refine g_callVN (As := [.int 22, .int 0, .int 0, .int 0]) (rest := []) hF (c_X0_emit a g r σ0 (22 : Int32) (0 : Int32) (0 : Int32) (0 : Int32) i0) (Nat.le_of_ble_eq_true rfl) mV_X0_emit nm_1071 (recv_ob obC_4) rfl rfl (Nat.le_of_ble_eq_true rfl) d_X2_invert_64 (k_i (fun r73 σ73 ⟨iσ73, ik73⟩ => ?_))
          have kp : Keep [(4, 1), (6, 3), (6, 4)] [24] σ0 σ73 := keep_c kp ik73 (by decide) (by decide)
          refine g_pop hF d_X2_invert_67 rfl ?_
          refine g_aload_n hF d_X2_invert_68 rfl 2 rfl ?_
          refine g_iload hF d_X2_invert_69 0 rfl ?_
          refine g_aload_n hF d_X2_invert_71 rfl 2 rfl ?_
          refine g_getN hF 8 (obC_op hqa1) (by decide) nm_418 (fval_op hqa1) d_X2_invert_72 ?_
          refine g_any (fun v74 => ?_)
          refine g_callSN (As := [.int 22, .int v74]) (rest := [.ref (r qa1)]) hF (c_X5_inverted a g r σ73 (22 : Int32) v74 iσ73) (Nat.le_of_ble_eq_true rfl) mS_X5_inverted nm_1266 rfl rfl (Nat.le_of_ble_eq_true rfl) d_X2_invert_75 (k_ro (fun r75 => ?_))
          refine g_putN hF 8 (obC_op hqa1) (by decide) nm_418 rfl rfl (rf_op hqa1) d_X2_invert_78 ?_
          obtain ⟨σ76, eσ76⟩ : ∃ z, z = upC σ73 qa1 8 r75 := ⟨_, rfl⟩
          rw [← eσ76]
          have ik76 : Keep [] [] σ73 σ76 := by rw [eσ76]; exact keep_op hqa1
          have kp : Keep [(4, 1), (6, 3), (6, 4)] [24] σ0 σ76 := keep_c kp ik76 (by decide) (by decide)
          have iσ76 : Inv σ76 := inv_keep ik76 iσ73
          refine g_aload_n hF d_X2_invert_81 rfl 2 rfl ?_
          refine g_iconst hF (v := 0) d_X2_invert_82 (by decide) ?_
          refine g_aload_n hF d_X2_invert_83 rfl 2 rfl ?_
          refine g_callVN (As := []) (rest := [.int 0, .ref (r qa1)]) hF (c_X6_isConstant a g r σ76 qa1 hqa1 iσ76) (Nat.le_of_ble_eq_true rfl) mV_X6_isConstant nm_1222 (recv_ob (obC_op hqa1)) rfl rfl (Nat.le_of_ble_eq_true rfl) d_X2_invert_84 (k_roz (fun r77 hz77 => ?_))
          refine g_if_eq hF 94 d_X2_invert_87 (by decide) rfl (fun c78_87 => ?_) (fun c78_87 => ?_)
          · -- taken at 87
            refine g_iconst hF (v := 0) d_X2_invert_94 (by decide) ?_
            refine g_callVN (As := [.int 0, .int 0]) (rest := []) hF (c_X6_become a g r σ76 (0 : Int32) (0 : Int32) qa1 hqa1 iσ76) (Nat.le_of_ble_eq_true rfl) mV_X6_become nm_1100 (recv_ob (obC_op hqa1)) rfl rfl (Nat.le_of_ble_eq_true rfl) d_X2_invert_95 (k_v (fun σ79 ⟨iσ79, ik79⟩ => ?_))
            have kp : Keep [(4, 1), (6, 3), (6, 4)] [24] σ0 σ79 := keep_c kp ik79 (by decide) (by decide)
            refine g_aload_n hF d_X2_invert_98 rfl 1 rfl ?_
            refine g_aload_n hF d_X2_invert_99 rfl 2 rfl ?_
            refine g_callV (As := [.ref (r qa1)]) (rest := []) hF (c_X2_fold a g r σ79 qa1 hqa1 iσ79) (Nat.le_of_ble_eq_true rfl) mV_X2_fold m_1233 (recv_ob obC_7) rfl rfl (Nat.le_of_ble_eq_true rfl) d_X2_invert_100 (k_v (fun σ80 ⟨iσ80, ik80⟩ => ?_)) (fun _ _ _ h => h.elim)
            have kp : Keep [(4, 1), (6, 3), (6, 4)] [24] σ0 σ80 := keep_c kp ik80 (by decide) (by decide)
            exact g_vret hF rfl d_X2_invert_103 ⟨rfl, rfl, rfl, ⟨iσ80, kp⟩⟩
          · -- not taken at 87
            refine g_iconst hF (v := 1) d_X2_invert_90 (by decide) ?_
            refine g_goto hF 95 d_X2_invert_91 (by decide) ?_
            refine g_callVN (As := [.int 0, .int 1]) (rest := []) hF (c_X6_become a g r σ76 (0 : Int32) (1 : Int32) qa1 hqa1 iσ76) (Nat.le_of_ble_eq_true rfl) mV_X6_become nm_1100 (recv_ob (obC_op hqa1)) rfl rfl (Nat.le_of_ble_eq_true rfl) d_X2_invert_95 (k_v (fun σ81 ⟨iσ81, ik81⟩ => ?_))
            have kp : Keep [(4, 1), (6, 3), (6, 4)] [24] σ0 σ81 := keep_c kp ik81 (by decide) (by decide)
            refine g_aload_n hF d_X2_invert_98 rfl 1 rfl ?_
            refine g_aload_n hF d_X2_invert_99 rfl 2 rfl ?_
            refine g_callV (As := [.ref (r qa1)]) (rest := []) hF (c_X2_fold a g r σ81 qa1 hqa1 iσ81) (Nat.le_of_ble_eq_true rfl) mV_X2_fold m_1233 (recv_ob obC_7) rfl rfl (Nat.le_of_ble_eq_true rfl) d_X2_invert_100 (k_v (fun σ82 ⟨iσ82, ik82⟩ => ?_)) (fun _ _ _ h => h.elim)
            have kp : Keep [(4, 1), (6, 3), (6, 4)] [24] σ0 σ82 := keep_c kp ik82 (by decide) (by decide)
            exact g_vret hF rfl d_X2_invert_103 ⟨rfl, rfl, rfl, ⟨iσ82, kp⟩⟩
        · -- not taken at 43
          refine g_bipush hF (v := 23) d_X2_invert_46 (by decide) ?_
          refine g_goto hF 53 d_X2_invert_48 (by decide) ?_
          refine g_istore hF [(4, .int 23), (0, .ref (r 7)), (1, .ref (r qa1)), (2, .int a2), (3, .int a3)] d_X2_invert_53 hnn (by decide) rfl ?_
          refine g_aload_n hF d_X2_invert_55 rfl 1 rfl ?_
          refine g_get (v := .ref (r 4)) hF 4 obC_7 (by decide) m_461 rfl d_X2_invert_56 ?_
          refine g_iload hF d_X2_invert_59 0 rfl ?_
          refine g_iconst hF (v := 0) d_X2_invert_61 (by decide) ?_
          refine g_iconst hF (v := 0) d_X2_invert_62 (by decide) ?_
          refine g_iconst hF (v := 0) d_X2_invert_63 (by decide) ?_
          refine g_callVN (As := [.int 23, .int 0, .int 0, .int 0]) (rest := []) hF (c_X0_emit a g r σ0 (23 : Int32) (0 : Int32) (0 : Int32) (0 : Int32) i0) (Nat.le_of_ble_eq_true rfl) mV_X0_emit nm_1071 (recv_ob obC_4) rfl rfl (Nat.le_of_ble_eq_true rfl) d_X2_invert_64 (k_i (fun r83 σ83 ⟨iσ83, ik83⟩ => ?_))
          have kp : Keep [(4, 1), (6, 3), (6, 4)] [24] σ0 σ83 := keep_c kp ik83 (by decide) (by decide)
          refine g_pop hF d_X2_invert_67 rfl ?_
          refine g_aload_n hF d_X2_invert_68 rfl 2 rfl ?_
          refine g_iload hF d_X2_invert_69 0 rfl ?_
          refine g_aload_n hF d_X2_invert_71 rfl 2 rfl ?_
          refine g_getN hF 8 (obC_op hqa1) (by decide) nm_418 (fval_op hqa1) d_X2_invert_72 ?_
          refine g_any (fun v84 => ?_)
          refine g_callSN (As := [.int 23, .int v84]) (rest := [.ref (r qa1)]) hF (c_X5_inverted a g r σ83 (23 : Int32) v84 iσ83) (Nat.le_of_ble_eq_true rfl) mS_X5_inverted nm_1266 rfl rfl (Nat.le_of_ble_eq_true rfl) d_X2_invert_75 (k_ro (fun r85 => ?_))
          refine g_putN hF 8 (obC_op hqa1) (by decide) nm_418 rfl rfl (rf_op hqa1) d_X2_invert_78 ?_
          obtain ⟨σ86, eσ86⟩ : ∃ z, z = upC σ83 qa1 8 r85 := ⟨_, rfl⟩
          rw [← eσ86]
          have ik86 : Keep [] [] σ83 σ86 := by rw [eσ86]; exact keep_op hqa1
          have kp : Keep [(4, 1), (6, 3), (6, 4)] [24] σ0 σ86 := keep_c kp ik86 (by decide) (by decide)
          have iσ86 : Inv σ86 := inv_keep ik86 iσ83
          refine g_aload_n hF d_X2_invert_81 rfl 2 rfl ?_
          refine g_iconst hF (v := 0) d_X2_invert_82 (by decide) ?_
          refine g_aload_n hF d_X2_invert_83 rfl 2 rfl ?_
          refine g_callVN (As := []) (rest := [.int 0, .ref (r qa1)]) hF (c_X6_isConstant a g r σ86 qa1 hqa1 iσ86) (Nat.le_of_ble_eq_true rfl) mV_X6_isConstant nm_1222 (recv_ob (obC_op hqa1)) rfl rfl (Nat.le_of_ble_eq_true rfl) d_X2_invert_84 (k_roz (fun r87 hz87 => ?_))
          refine g_if_eq hF 94 d_X2_invert_87 (by decide) rfl (fun c88_87 => ?_) (fun c88_87 => ?_)
          · -- taken at 87
            refine g_iconst hF (v := 0) d_X2_invert_94 (by decide) ?_
            refine g_callVN (As := [.int 0, .int 0]) (rest := []) hF (c_X6_become a g r σ86 (0 : Int32) (0 : Int32) qa1 hqa1 iσ86) (Nat.le_of_ble_eq_true rfl) mV_X6_become nm_1100 (recv_ob (obC_op hqa1)) rfl rfl (Nat.le_of_ble_eq_true rfl) d_X2_invert_95 (k_v (fun σ89 ⟨iσ89, ik89⟩ => ?_))
            have kp : Keep [(4, 1), (6, 3), (6, 4)] [24] σ0 σ89 := keep_c kp ik89 (by decide) (by decide)
            refine g_aload_n hF d_X2_invert_98 rfl 1 rfl ?_
            refine g_aload_n hF d_X2_invert_99 rfl 2 rfl ?_
            refine g_callV (As := [.ref (r qa1)]) (rest := []) hF (c_X2_fold a g r σ89 qa1 hqa1 iσ89) (Nat.le_of_ble_eq_true rfl) mV_X2_fold m_1233 (recv_ob obC_7) rfl rfl (Nat.le_of_ble_eq_true rfl) d_X2_invert_100 (k_v (fun σ90 ⟨iσ90, ik90⟩ => ?_)) (fun _ _ _ h => h.elim)
            have kp : Keep [(4, 1), (6, 3), (6, 4)] [24] σ0 σ90 := keep_c kp ik90 (by decide) (by decide)
            exact g_vret hF rfl d_X2_invert_103 ⟨rfl, rfl, rfl, ⟨iσ90, kp⟩⟩
          · -- not taken at 87
            refine g_iconst hF (v := 1) d_X2_invert_90 (by decide) ?_
            refine g_goto hF 95 d_X2_invert_91 (by decide) ?_
            refine g_callVN (As := [.int 0, .int 1]) (rest := []) hF (c_X6_become a g r σ86 (0 : Int32) (1 : Int32) qa1 hqa1 iσ86) (Nat.le_of_ble_eq_true rfl) mV_X6_become nm_1100 (recv_ob (obC_op hqa1)) rfl rfl (Nat.le_of_ble_eq_true rfl) d_X2_invert_95 (k_v (fun σ91 ⟨iσ91, ik91⟩ => ?_))
            have kp : Keep [(4, 1), (6, 3), (6, 4)] [24] σ0 σ91 := keep_c kp ik91 (by decide) (by decide)
            refine g_aload_n hF d_X2_invert_98 rfl 1 rfl ?_
            refine g_aload_n hF d_X2_invert_99 rfl 2 rfl ?_
            refine g_callV (As := [.ref (r qa1)]) (rest := []) hF (c_X2_fold a g r σ91 qa1 hqa1 iσ91) (Nat.le_of_ble_eq_true rfl) mV_X2_fold m_1233 (recv_ob obC_7) rfl rfl (Nat.le_of_ble_eq_true rfl) d_X2_invert_100 (k_v (fun σ92 ⟨iσ92, ik92⟩ => ?_)) (fun _ _ _ h => h.elim)
            have kp : Keep [(4, 1), (6, 3), (6, 4)] [24] σ0 σ92 := keep_c kp ik92 (by decide) (by decide)
            exact g_vret hF rfl d_X2_invert_103 ⟨rfl, rfl, rfl, ⟨iσ92, kp⟩⟩
      · -- not taken at 32
        refine g_bipush hF (v := 24) d_X2_invert_35 (by decide) ?_
        refine g_goto hF 53 d_X2_invert_37 (by decide) ?_
        refine g_istore hF [(4, .int 24), (0, .ref (r 7)), (1, .ref (r qa1)), (2, .int a2), (3, .int a3)] d_X2_invert_53 hnn (by decide) rfl ?_
        refine g_aload_n hF d_X2_invert_55 rfl 1 rfl ?_
        refine g_get (v := .ref (r 4)) hF 4 obC_7 (by decide) m_461 rfl d_X2_invert_56 ?_
        refine g_iload hF d_X2_invert_59 0 rfl ?_
        refine g_iconst hF (v := 0) d_X2_invert_61 (by decide) ?_
        refine g_iconst hF (v := 0) d_X2_invert_62 (by decide) ?_
        refine g_iconst hF (v := 0) d_X2_invert_63 (by decide) ?_
        refine g_callVN (As := [.int 24, .int 0, .int 0, .int 0]) (rest := []) hF (c_X0_emit a g r σ0 (24 : Int32) (0 : Int32) (0 : Int32) (0 : Int32) i0) (Nat.le_of_ble_eq_true rfl) mV_X0_emit nm_1071 (recv_ob obC_4) rfl rfl (Nat.le_of_ble_eq_true rfl) d_X2_invert_64 (k_i (fun r93 σ93 ⟨iσ93, ik93⟩ => ?_))
        have kp : Keep [(4, 1), (6, 3), (6, 4)] [24] σ0 σ93 := keep_c kp ik93 (by decide) (by decide)
        refine g_pop hF d_X2_invert_67 rfl ?_
        refine g_aload_n hF d_X2_invert_68 rfl 2 rfl ?_
        refine g_iload hF d_X2_invert_69 0 rfl ?_
        refine g_aload_n hF d_X2_invert_71 rfl 2 rfl ?_
        refine g_getN hF 8 (obC_op hqa1) (by decide) nm_418 (fval_op hqa1) d_X2_invert_72 ?_
        refine g_any (fun v94 => ?_)
        refine g_callSN (As := [.int 24, .int v94]) (rest := [.ref (r qa1)]) hF (c_X5_inverted a g r σ93 (24 : Int32) v94 iσ93) (Nat.le_of_ble_eq_true rfl) mS_X5_inverted nm_1266 rfl rfl (Nat.le_of_ble_eq_true rfl) d_X2_invert_75 (k_ro (fun r95 => ?_))
        refine g_putN hF 8 (obC_op hqa1) (by decide) nm_418 rfl rfl (rf_op hqa1) d_X2_invert_78 ?_
        obtain ⟨σ96, eσ96⟩ : ∃ z, z = upC σ93 qa1 8 r95 := ⟨_, rfl⟩
        rw [← eσ96]
        have ik96 : Keep [] [] σ93 σ96 := by rw [eσ96]; exact keep_op hqa1
        have kp : Keep [(4, 1), (6, 3), (6, 4)] [24] σ0 σ96 := keep_c kp ik96 (by decide) (by decide)
        have iσ96 : Inv σ96 := inv_keep ik96 iσ93
        refine g_aload_n hF d_X2_invert_81 rfl 2 rfl ?_
        refine g_iconst hF (v := 0) d_X2_invert_82 (by decide) ?_
        refine g_aload_n hF d_X2_invert_83 rfl 2 rfl ?_
        refine g_callVN (As := []) (rest := [.int 0, .ref (r qa1)]) hF (c_X6_isConstant a g r σ96 qa1 hqa1 iσ96) (Nat.le_of_ble_eq_true rfl) mV_X6_isConstant nm_1222 (recv_ob (obC_op hqa1)) rfl rfl (Nat.le_of_ble_eq_true rfl) d_X2_invert_84 (k_roz (fun r97 hz97 => ?_))
        refine g_if_eq hF 94 d_X2_invert_87 (by decide) rfl (fun c98_87 => ?_) (fun c98_87 => ?_)
        · -- taken at 87
          refine g_iconst hF (v := 0) d_X2_invert_94 (by decide) ?_
          refine g_callVN (As := [.int 0, .int 0]) (rest := []) hF (c_X6_become a g r σ96 (0 : Int32) (0 : Int32) qa1 hqa1 iσ96) (Nat.le_of_ble_eq_true rfl) mV_X6_become nm_1100 (recv_ob (obC_op hqa1)) rfl rfl (Nat.le_of_ble_eq_true rfl) d_X2_invert_95 (k_v (fun σ99 ⟨iσ99, ik99⟩ => ?_))
          have kp : Keep [(4, 1), (6, 3), (6, 4)] [24] σ0 σ99 := keep_c kp ik99 (by decide) (by decide)
          refine g_aload_n hF d_X2_invert_98 rfl 1 rfl ?_
          refine g_aload_n hF d_X2_invert_99 rfl 2 rfl ?_
          refine g_callV (As := [.ref (r qa1)]) (rest := []) hF (c_X2_fold a g r σ99 qa1 hqa1 iσ99) (Nat.le_of_ble_eq_true rfl) mV_X2_fold m_1233 (recv_ob obC_7) rfl rfl (Nat.le_of_ble_eq_true rfl) d_X2_invert_100 (k_v (fun σ100 ⟨iσ100, ik100⟩ => ?_)) (fun _ _ _ h => h.elim)
          have kp : Keep [(4, 1), (6, 3), (6, 4)] [24] σ0 σ100 := keep_c kp ik100 (by decide) (by decide)
          exact g_vret hF rfl d_X2_invert_103 ⟨rfl, rfl, rfl, ⟨iσ100, kp⟩⟩
        · -- not taken at 87
          refine g_iconst hF (v := 1) d_X2_invert_90 (by decide) ?_
          refine g_goto hF 95 d_X2_invert_91 (by decide) ?_
          refine g_callVN (As := [.int 0, .int 1]) (rest := []) hF (c_X6_become a g r σ96 (0 : Int32) (1 : Int32) qa1 hqa1 iσ96) (Nat.le_of_ble_eq_true rfl) mV_X6_become nm_1100 (recv_ob (obC_op hqa1)) rfl rfl (Nat.le_of_ble_eq_true rfl) d_X2_invert_95 (k_v (fun σ101 ⟨iσ101, ik101⟩ => ?_))
          have kp : Keep [(4, 1), (6, 3), (6, 4)] [24] σ0 σ101 := keep_c kp ik101 (by decide) (by decide)
          refine g_aload_n hF d_X2_invert_98 rfl 1 rfl ?_
          refine g_aload_n hF d_X2_invert_99 rfl 2 rfl ?_
          refine g_callV (As := [.ref (r qa1)]) (rest := []) hF (c_X2_fold a g r σ101 qa1 hqa1 iσ101) (Nat.le_of_ble_eq_true rfl) mV_X2_fold m_1233 (recv_ob obC_7) rfl rfl (Nat.le_of_ble_eq_true rfl) d_X2_invert_100 (k_v (fun σ102 ⟨iσ102, ik102⟩ => ?_)) (fun _ _ _ h => h.elim)
          have kp : Keep [(4, 1), (6, 3), (6, 4)] [24] σ0 σ102 := keep_c kp ik102 (by decide) (by decide)
          exact g_vret hF rfl d_X2_invert_103 ⟨rfl, rfl, rfl, ⟨iσ102, kp⟩⟩
    · -- not taken at 11
      refine g_goto hF 24 d_X2_invert_14 (by decide) ?_
      refine g_aload_n hF d_X2_invert_24 rfl 0 rfl ?_
      refine g_iload_n hF d_X2_invert_25 rfl 3 rfl ?_
      refine g_callV (As := [.int a3]) (rest := []) hF (c_X2_refuse a g r σ0 a3 i0) (Nat.le_of_ble_eq_true rfl) mV_X2_refuse m_1126 (recv_ob obC_7) rfl rfl (Nat.le_of_ble_eq_true rfl) d_X2_invert_26 (k_v (fun σ103 ⟨iσ103, ik103⟩ => ?_)) (fun _ _ _ h => h.elim)
      have kp : Keep [(4, 1), (6, 3), (6, 4)] [24] σ0 σ103 := keep_c kp ik103 (by decide) (by decide)
      refine g_iload_n hF d_X2_invert_29 rfl 2 rfl ?_
      refine g_bipush hF (v := 59) d_X2_invert_30 (by decide) ?_
      refine g_icmp_ne (yv := 59) hF 40 d_X2_invert_32 (by decide) rfl (by decide) (fun c104_32 => ?_) (fun c104_32 => ?_)
      · -- taken at 32
        refine g_iload_n hF d_X2_invert_40 rfl 2 rfl ?_
        refine g_bipush hF (v := 60) d_X2_invert_41 (by decide) ?_
        refine g_icmp_ne (yv := 60) hF 51 d_X2_invert_43 (by decide) rfl (by decide) (fun c105_43 => ?_) (fun c105_43 => ?_)
        · -- taken at 43
          refine g_bipush hF (v := 22) d_X2_invert_51 (by decide) ?_
          refine g_istore hF [(4, .int 22), (0, .ref (r 7)), (1, .ref (r qa1)), (2, .int a2), (3, .int a3)] d_X2_invert_53 hnn (by decide) rfl ?_
          refine g_aload_n hF d_X2_invert_55 rfl 1 rfl ?_
          refine g_get (v := .ref (r 4)) hF 4 obC_7 (by decide) m_461 rfl d_X2_invert_56 ?_
          refine g_iload hF d_X2_invert_59 0 rfl ?_
          refine g_iconst hF (v := 0) d_X2_invert_61 (by decide) ?_
          refine g_iconst hF (v := 0) d_X2_invert_62 (by decide) ?_
          refine g_iconst hF (v := 0) d_X2_invert_63 (by decide) ?_
          refine g_callVN (As := [.int 22, .int 0, .int 0, .int 0]) (rest := []) hF (c_X0_emit a g r σ103 (22 : Int32) (0 : Int32) (0 : Int32) (0 : Int32) iσ103) (Nat.le_of_ble_eq_true rfl) mV_X0_emit nm_1071 (recv_ob obC_4) rfl rfl (Nat.le_of_ble_eq_true rfl) d_X2_invert_64 (k_i (fun r106 σ106 ⟨iσ106, ik106⟩ => ?_))
          have kp : Keep [(4, 1), (6, 3), (6, 4)] [24] σ0 σ106 := keep_c kp ik106 (by decide) (by decide)
          refine g_pop hF d_X2_invert_67 rfl ?_
          refine g_aload_n hF d_X2_invert_68 rfl 2 rfl ?_
          refine g_iload hF d_X2_invert_69 0 rfl ?_
          refine g_aload_n hF d_X2_invert_71 rfl 2 rfl ?_
          refine g_getN hF 8 (obC_op hqa1) (by decide) nm_418 (fval_op hqa1) d_X2_invert_72 ?_
          refine g_any (fun v107 => ?_)
          refine g_callSN (As := [.int 22, .int v107]) (rest := [.ref (r qa1)]) hF (c_X5_inverted a g r σ106 (22 : Int32) v107 iσ106) (Nat.le_of_ble_eq_true rfl) mS_X5_inverted nm_1266 rfl rfl (Nat.le_of_ble_eq_true rfl) d_X2_invert_75 (k_ro (fun r108 => ?_))
          refine g_putN hF 8 (obC_op hqa1) (by decide) nm_418 rfl rfl (rf_op hqa1) d_X2_invert_78 ?_
          obtain ⟨σ109, eσ109⟩ : ∃ z, z = upC σ106 qa1 8 r108 := ⟨_, rfl⟩
          rw [← eσ109]
          have ik109 : Keep [] [] σ106 σ109 := by rw [eσ109]; exact keep_op hqa1
          have kp : Keep [(4, 1), (6, 3), (6, 4)] [24] σ0 σ109 := keep_c kp ik109 (by decide) (by decide)
          have iσ109 : Inv σ109 := inv_keep ik109 iσ106
          refine g_aload_n hF d_X2_invert_81 rfl 2 rfl ?_
          refine g_iconst hF (v := 0) d_X2_invert_82 (by decide) ?_
          refine g_aload_n hF d_X2_invert_83 rfl 2 rfl ?_
          refine g_callVN (As := []) (rest := [.int 0, .ref (r qa1)]) hF (c_X6_isConstant a g r σ109 qa1 hqa1 iσ109) (Nat.le_of_ble_eq_true rfl) mV_X6_isConstant nm_1222 (recv_ob (obC_op hqa1)) rfl rfl (Nat.le_of_ble_eq_true rfl) d_X2_invert_84 (k_roz (fun r110 hz110 => ?_))
          refine g_if_eq hF 94 d_X2_invert_87 (by decide) rfl (fun c111_87 => ?_) (fun c111_87 => ?_)
          · -- taken at 87
            refine g_iconst hF (v := 0) d_X2_invert_94 (by decide) ?_
            refine g_callVN (As := [.int 0, .int 0]) (rest := []) hF (c_X6_become a g r σ109 (0 : Int32) (0 : Int32) qa1 hqa1 iσ109) (Nat.le_of_ble_eq_true rfl) mV_X6_become nm_1100 (recv_ob (obC_op hqa1)) rfl rfl (Nat.le_of_ble_eq_true rfl) d_X2_invert_95 (k_v (fun σ112 ⟨iσ112, ik112⟩ => ?_))
            have kp : Keep [(4, 1), (6, 3), (6, 4)] [24] σ0 σ112 := keep_c kp ik112 (by decide) (by decide)
            refine g_aload_n hF d_X2_invert_98 rfl 1 rfl ?_
            refine g_aload_n hF d_X2_invert_99 rfl 2 rfl ?_
            refine g_callV (As := [.ref (r qa1)]) (rest := []) hF (c_X2_fold a g r σ112 qa1 hqa1 iσ112) (Nat.le_of_ble_eq_true rfl) mV_X2_fold m_1233 (recv_ob obC_7) rfl rfl (Nat.le_of_ble_eq_true rfl) d_X2_invert_100 (k_v (fun σ113 ⟨iσ113, ik113⟩ => ?_)) (fun _ _ _ h => h.elim)
            have kp : Keep [(4, 1), (6, 3), (6, 4)] [24] σ0 σ113 := keep_c kp ik113 (by decide) (by decide)
            exact g_vret hF rfl d_X2_invert_103 ⟨rfl, rfl, rfl, ⟨iσ113, kp⟩⟩
          · -- not taken at 87
            refine g_iconst hF (v := 1) d_X2_invert_90 (by decide) ?_
            refine g_goto hF 95 d_X2_invert_91 (by decide) ?_
            refine g_callVN (As := [.int 0, .int 1]) (rest := []) hF (c_X6_become a g r σ109 (0 : Int32) (1 : Int32) qa1 hqa1 iσ109) (Nat.le_of_ble_eq_true rfl) mV_X6_become nm_1100 (recv_ob (obC_op hqa1)) rfl rfl (Nat.le_of_ble_eq_true rfl) d_X2_invert_95 (k_v (fun σ114 ⟨iσ114, ik114⟩ => ?_))
            have kp : Keep [(4, 1), (6, 3), (6, 4)] [24] σ0 σ114 := keep_c kp ik114 (by decide) (by decide)
            refine g_aload_n hF d_X2_invert_98 rfl 1 rfl ?_
            refine g_aload_n hF d_X2_invert_99 rfl 2 rfl ?_
            refine g_callV (As := [.ref (r qa1)]) (rest := []) hF (c_X2_fold a g r σ114 qa1 hqa1 iσ114) (Nat.le_of_ble_eq_true rfl) mV_X2_fold m_1233 (recv_ob obC_7) rfl rfl (Nat.le_of_ble_eq_true rfl) d_X2_invert_100 (k_v (fun σ115 ⟨iσ115, ik115⟩ => ?_)) (fun _ _ _ h => h.elim)
            have kp : Keep [(4, 1), (6, 3), (6, 4)] [24] σ0 σ115 := keep_c kp ik115 (by decide) (by decide)
            exact g_vret hF rfl d_X2_invert_103 ⟨rfl, rfl, rfl, ⟨iσ115, kp⟩⟩
        · -- not taken at 43
          refine g_bipush hF (v := 23) d_X2_invert_46 (by decide) ?_
          refine g_goto hF 53 d_X2_invert_48 (by decide) ?_
          refine g_istore hF [(4, .int 23), (0, .ref (r 7)), (1, .ref (r qa1)), (2, .int a2), (3, .int a3)] d_X2_invert_53 hnn (by decide) rfl ?_
          refine g_aload_n hF d_X2_invert_55 rfl 1 rfl ?_
          refine g_get (v := .ref (r 4)) hF 4 obC_7 (by decide) m_461 rfl d_X2_invert_56 ?_
          refine g_iload hF d_X2_invert_59 0 rfl ?_
          refine g_iconst hF (v := 0) d_X2_invert_61 (by decide) ?_
          refine g_iconst hF (v := 0) d_X2_invert_62 (by decide) ?_
          refine g_iconst hF (v := 0) d_X2_invert_63 (by decide) ?_
          refine g_callVN (As := [.int 23, .int 0, .int 0, .int 0]) (rest := []) hF (c_X0_emit a g r σ103 (23 : Int32) (0 : Int32) (0 : Int32) (0 : Int32) iσ103) (Nat.le_of_ble_eq_true rfl) mV_X0_emit nm_1071 (recv_ob obC_4) rfl rfl (Nat.le_of_ble_eq_true rfl) d_X2_invert_64 (k_i (fun r116 σ116 ⟨iσ116, ik116⟩ => ?_))
          have kp : Keep [(4, 1), (6, 3), (6, 4)] [24] σ0 σ116 := keep_c kp ik116 (by decide) (by decide)
          refine g_pop hF d_X2_invert_67 rfl ?_
          refine g_aload_n hF d_X2_invert_68 rfl 2 rfl ?_
          refine g_iload hF d_X2_invert_69 0 rfl ?_
          refine g_aload_n hF d_X2_invert_71 rfl 2 rfl ?_
          refine g_getN hF 8 (obC_op hqa1) (by decide) nm_418 (fval_op hqa1) d_X2_invert_72 ?_
          refine g_any (fun v117 => ?_)
          refine g_callSN (As := [.int 23, .int v117]) (rest := [.ref (r qa1)]) hF (c_X5_inverted a g r σ116 (23 : Int32) v117 iσ116) (Nat.le_of_ble_eq_true rfl) mS_X5_inverted nm_1266 rfl rfl (Nat.le_of_ble_eq_true rfl) d_X2_invert_75 (k_ro (fun r118 => ?_))
          refine g_putN hF 8 (obC_op hqa1) (by decide) nm_418 rfl rfl (rf_op hqa1) d_X2_invert_78 ?_
          obtain ⟨σ119, eσ119⟩ : ∃ z, z = upC σ116 qa1 8 r118 := ⟨_, rfl⟩
          rw [← eσ119]
          have ik119 : Keep [] [] σ116 σ119 := by rw [eσ119]; exact keep_op hqa1
          have kp : Keep [(4, 1), (6, 3), (6, 4)] [24] σ0 σ119 := keep_c kp ik119 (by decide) (by decide)
          have iσ119 : Inv σ119 := inv_keep ik119 iσ116
          refine g_aload_n hF d_X2_invert_81 rfl 2 rfl ?_
          refine g_iconst hF (v := 0) d_X2_invert_82 (by decide) ?_
          refine g_aload_n hF d_X2_invert_83 rfl 2 rfl ?_
          refine g_callVN (As := []) (rest := [.int 0, .ref (r qa1)]) hF (c_X6_isConstant a g r σ119 qa1 hqa1 iσ119) (Nat.le_of_ble_eq_true rfl) mV_X6_isConstant nm_1222 (recv_ob (obC_op hqa1)) rfl rfl (Nat.le_of_ble_eq_true rfl) d_X2_invert_84 (k_roz (fun r120 hz120 => ?_))
          refine g_if_eq hF 94 d_X2_invert_87 (by decide) rfl (fun c121_87 => ?_) (fun c121_87 => ?_)
          · -- taken at 87
            refine g_iconst hF (v := 0) d_X2_invert_94 (by decide) ?_
            refine g_callVN (As := [.int 0, .int 0]) (rest := []) hF (c_X6_become a g r σ119 (0 : Int32) (0 : Int32) qa1 hqa1 iσ119) (Nat.le_of_ble_eq_true rfl) mV_X6_become nm_1100 (recv_ob (obC_op hqa1)) rfl rfl (Nat.le_of_ble_eq_true rfl) d_X2_invert_95 (k_v (fun σ122 ⟨iσ122, ik122⟩ => ?_))
            have kp : Keep [(4, 1), (6, 3), (6, 4)] [24] σ0 σ122 := keep_c kp ik122 (by decide) (by decide)
            refine g_aload_n hF d_X2_invert_98 rfl 1 rfl ?_
            refine g_aload_n hF d_X2_invert_99 rfl 2 rfl ?_
            refine g_callV (As := [.ref (r qa1)]) (rest := []) hF (c_X2_fold a g r σ122 qa1 hqa1 iσ122) (Nat.le_of_ble_eq_true rfl) mV_X2_fold m_1233 (recv_ob obC_7) rfl rfl (Nat.le_of_ble_eq_true rfl) d_X2_invert_100 (k_v (fun σ123 ⟨iσ123, ik123⟩ => ?_)) (fun _ _ _ h => h.elim)
            have kp : Keep [(4, 1), (6, 3), (6, 4)] [24] σ0 σ123 := keep_c kp ik123 (by decide) (by decide)
            exact g_vret hF rfl d_X2_invert_103 ⟨rfl, rfl, rfl, ⟨iσ123, kp⟩⟩
          · -- not taken at 87
            refine g_iconst hF (v := 1) d_X2_invert_90 (by decide) ?_
            refine g_goto hF 95 d_X2_invert_91 (by decide) ?_
            refine g_callVN (As := [.int 0, .int 1]) (rest := []) hF (c_X6_become a g r σ119 (0 : Int32) (1 : Int32) qa1 hqa1 iσ119) (Nat.le_of_ble_eq_true rfl) mV_X6_become nm_1100 (recv_ob (obC_op hqa1)) rfl rfl (Nat.le_of_ble_eq_true rfl) d_X2_invert_95 (k_v (fun σ124 ⟨iσ124, ik124⟩ => ?_))
            have kp : Keep [(4, 1), (6, 3), (6, 4)] [24] σ0 σ124 := keep_c kp ik124 (by decide) (by decide)
            refine g_aload_n hF d_X2_invert_98 rfl 1 rfl ?_
            refine g_aload_n hF d_X2_invert_99 rfl 2 rfl ?_
            refine g_callV (As := [.ref (r qa1)]) (rest := []) hF (c_X2_fold a g r σ124 qa1 hqa1 iσ124) (Nat.le_of_ble_eq_true rfl) mV_X2_fold m_1233 (recv_ob obC_7) rfl rfl (Nat.le_of_ble_eq_true rfl) d_X2_invert_100 (k_v (fun σ125 ⟨iσ125, ik125⟩ => ?_)) (fun _ _ _ h => h.elim)
            have kp : Keep [(4, 1), (6, 3), (6, 4)] [24] σ0 σ125 := keep_c kp ik125 (by decide) (by decide)
            exact g_vret hF rfl d_X2_invert_103 ⟨rfl, rfl, rfl, ⟨iσ125, kp⟩⟩
      · -- not taken at 32
        refine g_bipush hF (v := 24) d_X2_invert_35 (by decide) ?_
        refine g_goto hF 53 d_X2_invert_37 (by decide) ?_
        refine g_istore hF [(4, .int 24), (0, .ref (r 7)), (1, .ref (r qa1)), (2, .int a2), (3, .int a3)] d_X2_invert_53 hnn (by decide) rfl ?_
        refine g_aload_n hF d_X2_invert_55 rfl 1 rfl ?_
        refine g_get (v := .ref (r 4)) hF 4 obC_7 (by decide) m_461 rfl d_X2_invert_56 ?_
        refine g_iload hF d_X2_invert_59 0 rfl ?_
        refine g_iconst hF (v := 0) d_X2_invert_61 (by decide) ?_
        refine g_iconst hF (v := 0) d_X2_invert_62 (by decide) ?_
        refine g_iconst hF (v := 0) d_X2_invert_63 (by decide) ?_
        refine g_callVN (As := [.int 24, .int 0, .int 0, .int 0]) (rest := []) hF (c_X0_emit a g r σ103 (24 : Int32) (0 : Int32) (0 : Int32) (0 : Int32) iσ103) (Nat.le_of_ble_eq_true rfl) mV_X0_emit nm_1071 (recv_ob obC_4) rfl rfl (Nat.le_of_ble_eq_true rfl) d_X2_invert_64 (k_i (fun r126 σ126 ⟨iσ126, ik126⟩ => ?_))
        have kp : Keep [(4, 1), (6, 3), (6, 4)] [24] σ0 σ126 := keep_c kp ik126 (by decide) (by decide)
        refine g_pop hF d_X2_invert_67 rfl ?_
        refine g_aload_n hF d_X2_invert_68 rfl 2 rfl ?_
        refine g_iload hF d_X2_invert_69 0 rfl ?_
        refine g_aload_n hF d_X2_invert_71 rfl 2 rfl ?_
        refine g_getN hF 8 (obC_op hqa1) (by decide) nm_418 (fval_op hqa1) d_X2_invert_72 ?_
        refine g_any (fun v127 => ?_)
        refine g_callSN (As := [.int 24, .int v127]) (rest := [.ref (r qa1)]) hF (c_X5_inverted a g r σ126 (24 : Int32) v127 iσ126) (Nat.le_of_ble_eq_true rfl) mS_X5_inverted nm_1266 rfl rfl (Nat.le_of_ble_eq_true rfl) d_X2_invert_75 (k_ro (fun r128 => ?_))
        refine g_putN hF 8 (obC_op hqa1) (by decide) nm_418 rfl rfl (rf_op hqa1) d_X2_invert_78 ?_
        obtain ⟨σ129, eσ129⟩ : ∃ z, z = upC σ126 qa1 8 r128 := ⟨_, rfl⟩
        rw [← eσ129]
        have ik129 : Keep [] [] σ126 σ129 := by rw [eσ129]; exact keep_op hqa1
        have kp : Keep [(4, 1), (6, 3), (6, 4)] [24] σ0 σ129 := keep_c kp ik129 (by decide) (by decide)
        have iσ129 : Inv σ129 := inv_keep ik129 iσ126
        refine g_aload_n hF d_X2_invert_81 rfl 2 rfl ?_
        refine g_iconst hF (v := 0) d_X2_invert_82 (by decide) ?_
        refine g_aload_n hF d_X2_invert_83 rfl 2 rfl ?_
        refine g_callVN (As := []) (rest := [.int 0, .ref (r qa1)]) hF (c_X6_isConstant a g r σ129 qa1 hqa1 iσ129) (Nat.le_of_ble_eq_true rfl) mV_X6_isConstant nm_1222 (recv_ob (obC_op hqa1)) rfl rfl (Nat.le_of_ble_eq_true rfl) d_X2_invert_84 (k_roz (fun r130 hz130 => ?_))
        refine g_if_eq hF 94 d_X2_invert_87 (by decide) rfl (fun c131_87 => ?_) (fun c131_87 => ?_)
        · -- taken at 87
          refine g_iconst hF (v := 0) d_X2_invert_94 (by decide) ?_
          refine g_callVN (As := [.int 0, .int 0]) (rest := []) hF (c_X6_become a g r σ129 (0 : Int32) (0 : Int32) qa1 hqa1 iσ129) (Nat.le_of_ble_eq_true rfl) mV_X6_become nm_1100 (recv_ob (obC_op hqa1)) rfl rfl (Nat.le_of_ble_eq_true rfl) d_X2_invert_95 (k_v (fun σ132 ⟨iσ132, ik132⟩ => ?_))
          have kp : Keep [(4, 1), (6, 3), (6, 4)] [24] σ0 σ132 := keep_c kp ik132 (by decide) (by decide)
          refine g_aload_n hF d_X2_invert_98 rfl 1 rfl ?_
          refine g_aload_n hF d_X2_invert_99 rfl 2 rfl ?_
          refine g_callV (As := [.ref (r qa1)]) (rest := []) hF (c_X2_fold a g r σ132 qa1 hqa1 iσ132) (Nat.le_of_ble_eq_true rfl) mV_X2_fold m_1233 (recv_ob obC_7) rfl rfl (Nat.le_of_ble_eq_true rfl) d_X2_invert_100 (k_v (fun σ133 ⟨iσ133, ik133⟩ => ?_)) (fun _ _ _ h => h.elim)
          have kp : Keep [(4, 1), (6, 3), (6, 4)] [24] σ0 σ133 := keep_c kp ik133 (by decide) (by decide)
          exact g_vret hF rfl d_X2_invert_103 ⟨rfl, rfl, rfl, ⟨iσ133, kp⟩⟩
        · -- not taken at 87
          refine g_iconst hF (v := 1) d_X2_invert_90 (by decide) ?_
          refine g_goto hF 95 d_X2_invert_91 (by decide) ?_
          refine g_callVN (As := [.int 0, .int 1]) (rest := []) hF (c_X6_become a g r σ129 (0 : Int32) (1 : Int32) qa1 hqa1 iσ129) (Nat.le_of_ble_eq_true rfl) mV_X6_become nm_1100 (recv_ob (obC_op hqa1)) rfl rfl (Nat.le_of_ble_eq_true rfl) d_X2_invert_95 (k_v (fun σ134 ⟨iσ134, ik134⟩ => ?_))
          have kp : Keep [(4, 1), (6, 3), (6, 4)] [24] σ0 σ134 := keep_c kp ik134 (by decide) (by decide)
          refine g_aload_n hF d_X2_invert_98 rfl 1 rfl ?_
          refine g_aload_n hF d_X2_invert_99 rfl 2 rfl ?_
          refine g_callV (As := [.ref (r qa1)]) (rest := []) hF (c_X2_fold a g r σ134 qa1 hqa1 iσ134) (Nat.le_of_ble_eq_true rfl) mV_X2_fold m_1233 (recv_ob obC_7) rfl rfl (Nat.le_of_ble_eq_true rfl) d_X2_invert_100 (k_v (fun σ135 ⟨iσ135, ik135⟩ => ?_)) (fun _ _ _ h => h.elim)
          have kp : Keep [(4, 1), (6, 3), (6, 4)] [24] σ0 σ135 := keep_c kp ik135 (by decide) (by decide)
          exact g_vret hF rfl d_X2_invert_103 ⟨rfl, rfl, rfl, ⟨iσ135, kp⟩⟩
set_option maxHeartbeats 4000000 in
set_option maxRecDepth 100000 in
theorem c_X1_functionEnd (a : Nat → Nat) (g : Nat → Nat → Int32) (r : Nat → Nat) (σ0 : St) (i0 : Inv σ0) (l : Launch) (D : va_G) (cy : Nat → ClassId) : Ct l D cy SC r (EC a g) y_X1_functionEnd (Cond.code y_X1_functionEnd b_X1_functionEnd 7 none) 2 [.ref (r 8)] σ0 Z0 [] (QV (fun σ9 => ((((σ9 6 17).toInt = (σ0 6 17).toInt ∨ (σ9 6 17).toInt = 0) ∧ ((σ9 6 10).toInt = (σ0 6 10).toInt ∨ (σ9 6 10).toInt = 0)) ∧ Inv σ9 ∧ Keep [(4, 1), (6, 6), (6, 10), (6, 15), (6, 17)] [24, 48] σ0 σ9))) QF := by
  refine Ct_of (EC_ok a g) (by decide) (Nat.le_of_ble_eq_true rfl) (by decide) (fun X hnn hF => ?_)
  show G SC r X σ0 Z0 [] [(0, .ref (r 8))] [] 0
  have b72 : ∀ (N : Nat) (σ : St) (x1 : Int32) (x2 : Int32) (x3 : Int32) (x4 : Int32) (x5 : Int32) , upm x5 = N → Inv σ → Keep [(4, 1), (6, 6), (6, 10), (6, 15), (6, 17)] [24, 48] σ0 σ → G SC r X σ Z0 [] [(0, .ref (r 8)), (1, .int x1), (2, .int x2), (3, .int x3), (4, .int x4), (5, .int x5)] [] 72 := by
    intro M72
    induction M72 using Nat.strongRecOn with
    | _ M72 ih72 =>
      intro σ x1 x2 x3 x4 x5 N72 inv kp
      refine g_iload hF d_X1_functionEnd_72 5 rfl ?_
      refine g_aload_n hF d_X1_functionEnd_74 rfl 0 rfl ?_
      refine g_get (v := .ref (r 6)) hF 2 obC_8 (by decide) m_491 rfl d_X1_functionEnd_75 ?_
      refine g_getN (v := .int (σ 6 10)) hF 10 obC_6 (by decide) nm_332 rfl d_X1_functionEnd_78 ?_
      refine g_icmp_ge hF 183 d_X1_functionEnd_81 (by decide) rfl rfl (fun c1_81 => ?_) (fun c1_81 => ?_)
      · -- taken at 81
        refine g_aload_n hF d_X1_functionEnd_183 rfl 0 rfl ?_
        refine g_get (v := .ref (r 4)) hF 4 obC_8 (by decide) m_493 rfl d_X1_functionEnd_184 ?_
        refine g_getN (v := .ref (r 24)) hF 0 obC_4 (by decide) nm_151 rfl d_X1_functionEnd_187 ?_
        refine g_iload_n hF d_X1_functionEnd_190 rfl 1 rfl ?_
        refine g_iload_n hF d_X1_functionEnd_191 rfl 3 rfl ?_
        refine g_callSN (As := [.ref (r 24), .int x1, .int x3]) (rest := []) hF (c_set a g r σ arC_24 (by decide) x1 x3) (Nat.le_of_ble_eq_true rfl) mS_X12_set nm_1409 rfl rfl (Nat.le_of_ble_eq_true rfl) d_X1_functionEnd_192 (k_v (fun σ2 ⟨g2, eσ2, hg2⟩ => ?_))
        subst eσ2
        have kp : Keep [(4, 1), (6, 6), (6, 10), (6, 15), (6, 17)] [24, 48] σ0 (upF σ 24 g2) := keep_F kp (by decide)
        refine g_aload_n hF d_X1_functionEnd_195 rfl 0 rfl ?_
        refine g_get (v := .ref (r 4)) hF 4 obC_8 (by decide) m_493 rfl d_X1_functionEnd_196 ?_
        refine g_getN (v := .ref (r 24)) hF 0 obC_4 (by decide) nm_151 rfl d_X1_functionEnd_199 ?_
        refine g_iload_n hF d_X1_functionEnd_202 rfl 1 rfl ?_
        refine g_iconst hF (v := 1) d_X1_functionEnd_203 (by decide) ?_
        refine g_iadd hF d_X1_functionEnd_204 ?_
        refine g_aload_n hF d_X1_functionEnd_205 rfl 0 rfl ?_
        refine g_get (v := .ref (r 6)) hF 2 obC_8 (by decide) m_491 rfl d_X1_functionEnd_206 ?_
        refine g_getN (v := .int (σ 6 10)) hF 10 obC_6 (by decide) nm_332 rfl d_X1_functionEnd_209 ?_
        refine g_callSN (As := [.ref (r 24), .int (x1 + 1), .int (σ 6 10)]) (rest := []) hF (c_set a g r (upF σ 24 g2) arC_24 (by decide) (x1 + 1) (σ 6 10)) (Nat.le_of_ble_eq_true rfl) mS_X12_set nm_1409 rfl rfl (Nat.le_of_ble_eq_true rfl) d_X1_functionEnd_212 (k_v (fun σ3 ⟨g3, eσ3, hg3⟩ => ?_))
        subst eσ3
        have kp : Keep [(4, 1), (6, 6), (6, 10), (6, 15), (6, 17)] [24, 48] σ0 (upF (upF σ 24 g2) 24 g3) := keep_F kp (by decide)
        refine g_aload_n hF d_X1_functionEnd_215 rfl 0 rfl ?_
        refine g_get (v := .ref (r 4)) hF 4 obC_8 (by decide) m_493 rfl d_X1_functionEnd_216 ?_
        refine g_getN (v := .ref (r 24)) hF 0 obC_4 (by decide) nm_151 rfl d_X1_functionEnd_219 ?_
        refine g_iload_n hF d_X1_functionEnd_222 rfl 1 rfl ?_
        refine g_iconst hF (v := 2) d_X1_functionEnd_223 (by decide) ?_
        refine g_iadd hF d_X1_functionEnd_224 ?_
        refine g_iload_n hF d_X1_functionEnd_225 rfl 2 rfl ?_
        refine g_callSN (As := [.ref (r 24), .int (x1 + 2), .int x2]) (rest := []) hF (c_set a g r (upF (upF σ 24 g2) 24 g3) arC_24 (by decide) (x1 + 2) x2) (Nat.le_of_ble_eq_true rfl) mS_X12_set nm_1409 rfl rfl (Nat.le_of_ble_eq_true rfl) d_X1_functionEnd_226 (k_v (fun σ4 ⟨g4, eσ4, hg4⟩ => ?_))
        subst eσ4
        have kp : Keep [(4, 1), (6, 6), (6, 10), (6, 15), (6, 17)] [24, 48] σ0 (upF (upF (upF σ 24 g2) 24 g3) 24 g4) := keep_F kp (by decide)
        refine g_aload_n hF d_X1_functionEnd_229 rfl 0 rfl ?_
        refine g_get (v := .ref (r 4)) hF 4 obC_8 (by decide) m_493 rfl d_X1_functionEnd_230 ?_
        refine g_getN (v := .ref (r 24)) hF 0 obC_4 (by decide) nm_151 rfl d_X1_functionEnd_233 ?_
        refine g_iload_n hF d_X1_functionEnd_236 rfl 1 rfl ?_
        refine g_iconst hF (v := 3) d_X1_functionEnd_237 (by decide) ?_
        refine g_iadd hF d_X1_functionEnd_238 ?_
        refine g_iload hF d_X1_functionEnd_239 4 rfl ?_
        refine g_callSN (As := [.ref (r 24), .int (x1 + 3), .int x4]) (rest := []) hF (c_set a g r (upF (upF (upF σ 24 g2) 24 g3) 24 g4) arC_24 (by decide) (x1 + 3) x4) (Nat.le_of_ble_eq_true rfl) mS_X12_set nm_1409 rfl rfl (Nat.le_of_ble_eq_true rfl) d_X1_functionEnd_241 (k_v (fun σ5 ⟨g5, eσ5, hg5⟩ => ?_))
        subst eσ5
        have kp : Keep [(4, 1), (6, 6), (6, 10), (6, 15), (6, 17)] [24, 48] σ0 (upF (upF (upF (upF σ 24 g2) 24 g3) 24 g4) 24 g5) := keep_F kp (by decide)
        refine g_aload_n hF d_X1_functionEnd_244 rfl 0 rfl ?_
        refine g_get (v := .ref (r 4)) hF 4 obC_8 (by decide) m_493 rfl d_X1_functionEnd_245 ?_
        refine g_iload_n hF d_X1_functionEnd_248 rfl 1 rfl ?_
        refine g_iconst hF (v := 4) d_X1_functionEnd_249 (by decide) ?_
        refine g_iadd hF d_X1_functionEnd_250 ?_
        refine g_aload_n hF d_X1_functionEnd_251 rfl 0 rfl ?_
        refine g_get (v := .ref (r 48)) hF 17 obC_8 (by decide) m_509 rfl d_X1_functionEnd_252 ?_
        have j7 : Inv (upF (upF (upF (upF σ 24 g2) 24 g3) 24 g4) 24 g5) := ⟨inv.1, inv.2.1, inv.2.2.1, inv.2.2.2.1, inv.2.2.2.2.1, inv.2.2.2.2.2.1, inv.2.2.2.2.2.2.1, inv.2.2.2.2.2.2.2.1, inv.2.2.2.2.2.2.2.2.1, inv.2.2.2.2.2.2.2.2.2.1, inv.2.2.2.2.2.2.2.2.2.2.1, inv.2.2.2.2.2.2.2.2.2.2.2.1, inv.2.2.2.2.2.2.2.2.2.2.2.2.1, inv.2.2.2.2.2.2.2.2.2.2.2.2.2.1, inv.2.2.2.2.2.2.2.2.2.2.2.2.2.2.1, inv.2.2.2.2.2.2.2.2.2.2.2.2.2.2.2.1, inv.2.2.2.2.2.2.2.2.2.2.2.2.2.2.2.2.1, inv.2.2.2.2.2.2.2.2.2.2.2.2.2.2.2.2.2.1, inv.2.2.2.2.2.2.2.2.2.2.2.2.2.2.2.2.2.2.1, inv.2.2.2.2.2.2.2.2.2.2.2.2.2.2.2.2.2.2.2⟩
        refine g_callVN (As := [.int (x1 + 4), .ref (r 48)]) (rest := []) hF (c_X0_settle_r4_r48 a g r (upF (upF (upF (upF σ 24 g2) 24 g3) 24 g4) 24 g5) (x1 + 4) j7) (Nat.le_of_ble_eq_true rfl) mV_X0_settle nm_1464 (recv_ob obC_4) rfl rfl (Nat.le_of_ble_eq_true rfl) d_X1_functionEnd_255 (k_v (fun σ6 ⟨iσ6, ik6⟩ => ?_))
        have kp : Keep [(4, 1), (6, 6), (6, 10), (6, 15), (6, 17)] [24, 48] σ0 σ6 := keep_c kp ik6 (by decide) (by decide)
        refine g_aload_n hF d_X1_functionEnd_258 rfl 0 rfl ?_
        refine g_get (v := .ref (r 6)) hF 2 obC_8 (by decide) m_491 rfl d_X1_functionEnd_259 ?_
        refine g_getN (v := .int (σ6 6 2)) hF 2 obC_6 (by decide) nm_312 rfl d_X1_functionEnd_262 ?_
        refine g_top (v := (σ 6 2)) (ik6 6 2 rfl rfl rfl) ?_
        refine g_iconst hF (v := 1) d_X1_functionEnd_265 (by decide) ?_
        refine g_icmp_le (yv := 1) hF 279 d_X1_functionEnd_266 (by decide) rfl (by decide) (fun c8_266 => ?_) (fun c8_266 => ?_)
        · -- taken at 266
          refine g_aload_n hF d_X1_functionEnd_279 rfl 0 rfl ?_
          refine g_get (v := .ref (r 6)) hF 2 obC_8 (by decide) m_491 rfl d_X1_functionEnd_280 ?_
          refine g_callVN (As := []) (rest := []) hF (c_X11_leave a g r σ6 iσ6) (Nat.le_of_ble_eq_true rfl) mV_X11_leave nm_1473 (recv_ob obC_6) rfl rfl (Nat.le_of_ble_eq_true rfl) d_X1_functionEnd_283 (k_v (fun σ9 ⟨hs9, iσ9, ik9⟩ => ?_))
          have hs9 : (σ9 6 17).toInt = 0 ∧ (σ9 6 10).toInt = 0 := hs9
          have kp : Keep [(4, 1), (6, 6), (6, 10), (6, 15), (6, 17)] [24, 48] σ0 σ9 := keep_c kp ik9 (by decide) (by decide)
          exact g_vret hF rfl d_X1_functionEnd_286 ⟨rfl, rfl, rfl, ⟨(by show ((σ9 6 17).toInt = (σ0 6 17).toInt ∨ (σ9 6 17).toInt = 0) ∧ ((σ9 6 10).toInt = (σ0 6 10).toInt ∨ (σ9 6 10).toInt = 0); have e0 := s_rng (σ9 6 17); have e1 := s_rng (σ0 6 17); have e2 := s_rng (σ9 6 10); have e3 := iσ9.2.2.2.2.2.1; have e4 := s_rng (σ0 6 10); have e5 := i0.2.2.2.2.2.1; omega), iσ9, kp⟩⟩
        · -- not taken at 266
          refine g_aload_n hF d_X1_functionEnd_269 rfl 0 rfl ?_
          refine g_get (v := .ref (r 4)) hF 4 obC_8 (by decide) m_493 rfl d_X1_functionEnd_270 ?_
          refine g_iload_n hF d_X1_functionEnd_273 rfl 1 rfl ?_
          refine g_iconst hF (v := 4) d_X1_functionEnd_274 (by decide) ?_
          refine g_iadd hF d_X1_functionEnd_275 ?_
          refine g_callVN (As := [.int (x1 + 4)]) (rest := []) hF (c_X0_thread a g r σ6 (x1 + 4) iσ6) (Nat.le_of_ble_eq_true rfl) mV_X0_thread nm_1469 (recv_ob obC_4) rfl rfl (Nat.le_of_ble_eq_true rfl) d_X1_functionEnd_276 (k_v (fun σ10 ⟨iσ10, ik10⟩ => ?_))
          have kp : Keep [(4, 1), (6, 6), (6, 10), (6, 15), (6, 17)] [24, 48] σ0 σ10 := keep_c kp ik10 (by decide) (by decide)
          refine g_aload_n hF d_X1_functionEnd_279 rfl 0 rfl ?_
          refine g_get (v := .ref (r 6)) hF 2 obC_8 (by decide) m_491 rfl d_X1_functionEnd_280 ?_
          refine g_callVN (As := []) (rest := []) hF (c_X11_leave a g r σ10 iσ10) (Nat.le_of_ble_eq_true rfl) mV_X11_leave nm_1473 (recv_ob obC_6) rfl rfl (Nat.le_of_ble_eq_true rfl) d_X1_functionEnd_283 (k_v (fun σ11 ⟨hs11, iσ11, ik11⟩ => ?_))
          have hs11 : (σ11 6 17).toInt = 0 ∧ (σ11 6 10).toInt = 0 := hs11
          have kp : Keep [(4, 1), (6, 6), (6, 10), (6, 15), (6, 17)] [24, 48] σ0 σ11 := keep_c kp ik11 (by decide) (by decide)
          exact g_vret hF rfl d_X1_functionEnd_286 ⟨rfl, rfl, rfl, ⟨(by show ((σ11 6 17).toInt = (σ0 6 17).toInt ∨ (σ11 6 17).toInt = 0) ∧ ((σ11 6 10).toInt = (σ0 6 10).toInt ∨ (σ11 6 10).toInt = 0); have e0 := s_rng (σ11 6 17); have e1 := s_rng (σ0 6 17); have e2 := s_rng (σ11 6 10); have e3 := iσ11.2.2.2.2.2.1; have e4 := s_rng (σ0 6 10); have e5 := i0.2.2.2.2.2.1; omega), iσ11, kp⟩⟩
      · -- not taken at 81
        refine g_aload_n hF d_X1_functionEnd_84 rfl 0 rfl ?_
        refine g_get (v := .ref (r 6)) hF 2 obC_8 (by decide) m_491 rfl d_X1_functionEnd_85 ?_
        refine g_getN (v := .ref (r 43)) hF 14 obC_6 (by decide) nm_341 rfl d_X1_functionEnd_88 ?_
        refine g_iload hF d_X1_functionEnd_91 5 rfl ?_
        refine g_callSN (As := [.ref (r 43), .int x5]) (rest := []) hF (c_at a g r σ arC_43 (by decide) x5) (Nat.le_of_ble_eq_true rfl) mS_X12_at nm_1356 rfl rfl (Nat.le_of_ble_eq_true rfl) d_X1_functionEnd_93 (k_rop (fun r12 hr12 => ?_))
        refine g_if_eq hF 103 d_X1_functionEnd_96 (by decide) rfl (fun c13_96 => ?_) (fun c13_96 => ?_)
        · -- taken at 96
          refine g_iconst hF (v := 0) d_X1_functionEnd_103 (by decide) ?_
          refine g_istore hF [(6, .int 0), (0, .ref (r 8)), (1, .int x1), (2, .int x2), (3, .int x3), (4, .int x4), (5, .int x5)] d_X1_functionEnd_104 hnn (by decide) rfl ?_
          refine g_aload_n hF d_X1_functionEnd_106 rfl 1 rfl ?_
          refine g_get (v := .ref (r 48)) hF 17 obC_8 (by decide) m_509 rfl d_X1_functionEnd_107 ?_
          refine g_iload hF d_X1_functionEnd_110 6 rfl ?_
          refine g_iload hF d_X1_functionEnd_112 0 rfl ?_
          refine g_if_eq (xv := 0) hF 121 d_X1_functionEnd_114 (by decide) (by decide) (fun _ => ?_) (fun c_114 => absurd c_114 (by decide))
          refine g_iconst hF (v := (-1)) d_X1_functionEnd_121 (by decide) ?_
          refine g_callSN (As := [.ref (r 48), .int x5, .int (-1)]) (rest := []) hF (c_set a g r σ arC_48 (by decide) x5 ((-1) : Int32)) (Nat.le_of_ble_eq_true rfl) mS_X12_set nm_1409 rfl rfl (Nat.le_of_ble_eq_true rfl) d_X1_functionEnd_122 (k_v (fun σ14 ⟨g14, eσ14, hg14⟩ => ?_))
          subst eσ14
          have kp : Keep [(4, 1), (6, 6), (6, 10), (6, 15), (6, 17)] [24, 48] σ0 (upF σ 48 g14) := keep_F kp (by decide)
          refine g_iload hF d_X1_functionEnd_125 5 rfl ?_
          refine g_iload hF d_X1_functionEnd_127 0 rfl ?_
          refine g_if_eq (xv := 0) hF 145 d_X1_functionEnd_129 (by decide) (by decide) (fun _ => ?_) (fun c_129 => absurd c_129 (by decide))
          refine g_iconst hF (v := 0) d_X1_functionEnd_145 (by decide) ?_
          refine g_ior hF d_X1_functionEnd_146 ?_
          refine g_any (fun v15 => ?_)
          refine g_istore hF [(4, .int v15), (6, .int 0), (0, .ref (r 8)), (1, .int x1), (2, .int x2), (3, .int x3), (5, .int x5)] d_X1_functionEnd_147 hnn (by decide) rfl ?_
          refine g_iload_n hF d_X1_functionEnd_149 rfl 5 rfl ?_
          refine g_iload hF d_X1_functionEnd_150 1 rfl ?_
          refine g_if_eq (xv := 0) hF 174 d_X1_functionEnd_152 (by decide) (by decide) (fun _ => ?_) (fun c_152 => absurd c_152 (by decide))
          refine g_iconst hF (v := 0) d_X1_functionEnd_174 (by decide) ?_
          refine g_iadd hF d_X1_functionEnd_175 ?_
          refine g_istore_n hF [(3, .int (x3 + 0)), (4, .int v15), (6, .int 0), (0, .ref (r 8)), (1, .int x1), (2, .int x2), (5, .int x5)] d_X1_functionEnd_176 rfl hnn (by decide) rfl ?_
          refine g_iinc hF (x5 + 1) [(5, .int (x5 + 1)), (3, .int (x3 + 0)), (4, .int v15), (6, .int 0), (0, .ref (r 8)), (1, .int x1), (2, .int x2)] d_X1_functionEnd_177 6 rfl rfl hnn (by decide) rfl ?_
          refine g_goto hF 72 d_X1_functionEnd_180 (by decide) ?_
          have j16 : Inv (upF σ 48 g14) := ⟨inv.1, inv.2.1, inv.2.2.1, inv.2.2.2.1, inv.2.2.2.2.1, inv.2.2.2.2.2.1, inv.2.2.2.2.2.2.1, inv.2.2.2.2.2.2.2.1, inv.2.2.2.2.2.2.2.2.1, inv.2.2.2.2.2.2.2.2.2.1, inv.2.2.2.2.2.2.2.2.2.2.1, inv.2.2.2.2.2.2.2.2.2.2.2.1, inv.2.2.2.2.2.2.2.2.2.2.2.2.1, inv.2.2.2.2.2.2.2.2.2.2.2.2.2.1, inv.2.2.2.2.2.2.2.2.2.2.2.2.2.2.1, inv.2.2.2.2.2.2.2.2.2.2.2.2.2.2.2.1, inv.2.2.2.2.2.2.2.2.2.2.2.2.2.2.2.2.1, inv.2.2.2.2.2.2.2.2.2.2.2.2.2.2.2.2.2.1, inv.2.2.2.2.2.2.2.2.2.2.2.2.2.2.2.2.2.2.1, inv.2.2.2.2.2.2.2.2.2.2.2.2.2.2.2.2.2.2.2⟩
          exact g_sub (L' := [(0, .ref (r 8)), (1, .int x1), (2, .int x2), (3, .int (x3 + 0)), (4, .int v15), (5, .int (x5 + 1))]) [4, 5, 6, 1, 2, 0] rfl (ih72 _ (N72 ▸ upm_lt c1_81 (s_rng (σ 6 10)).2) (upF σ 48 g14) x1 x2 (x3 + 0) v15 (x5 + 1) rfl j16 kp)
        · -- not taken at 96
          refine g_iconst hF (v := 1) d_X1_functionEnd_99 (by decide) ?_
          refine g_goto hF 104 d_X1_functionEnd_100 (by decide) ?_
          refine g_istore hF [(6, .int 1), (0, .ref (r 8)), (1, .int x1), (2, .int x2), (3, .int x3), (4, .int x4), (5, .int x5)] d_X1_functionEnd_104 hnn (by decide) rfl ?_
          refine g_aload_n hF d_X1_functionEnd_106 rfl 1 rfl ?_
          refine g_get (v := .ref (r 48)) hF 17 obC_8 (by decide) m_509 rfl d_X1_functionEnd_107 ?_
          refine g_iload hF d_X1_functionEnd_110 6 rfl ?_
          refine g_iload hF d_X1_functionEnd_112 0 rfl ?_
          refine g_if_eq (xv := 1) hF 121 d_X1_functionEnd_114 (by decide) (by decide) (fun c_114 => absurd c_114 (by decide)) (fun _ => ?_)
          refine g_iload_n hF d_X1_functionEnd_117 rfl 4 rfl ?_
          refine g_goto hF 122 d_X1_functionEnd_118 (by decide) ?_
          refine g_callSN (As := [.ref (r 48), .int x5, .int x3]) (rest := []) hF (c_set a g r σ arC_48 (by decide) x5 x3) (Nat.le_of_ble_eq_true rfl) mS_X12_set nm_1409 rfl rfl (Nat.le_of_ble_eq_true rfl) d_X1_functionEnd_122 (k_v (fun σ17 ⟨g17, eσ17, hg17⟩ => ?_))
          subst eσ17
          have kp : Keep [(4, 1), (6, 6), (6, 10), (6, 15), (6, 17)] [24, 48] σ0 (upF σ 48 g17) := keep_F kp (by decide)
          refine g_iload hF d_X1_functionEnd_125 5 rfl ?_
          refine g_iload hF d_X1_functionEnd_127 0 rfl ?_
          refine g_if_eq (xv := 1) hF 145 d_X1_functionEnd_129 (by decide) (by decide) (fun c_129 => absurd c_129 (by decide)) (fun _ => ?_)
          refine g_iload hF d_X1_functionEnd_132 6 rfl ?_
          refine g_iload_n hF d_X1_functionEnd_134 rfl 3 rfl ?_
          refine g_icmp_ge hF 145 d_X1_functionEnd_135 (by decide) rfl rfl (fun c18_135 => ?_) (fun c18_135 => ?_)
          · -- taken at 135
            refine g_iconst hF (v := 0) d_X1_functionEnd_145 (by decide) ?_
            refine g_ior hF d_X1_functionEnd_146 ?_
            refine g_any (fun v19 => ?_)
            refine g_istore hF [(4, .int v19), (6, .int 1), (0, .ref (r 8)), (1, .int x1), (2, .int x2), (3, .int x3), (5, .int x5)] d_X1_functionEnd_147 hnn (by decide) rfl ?_
            refine g_iload_n hF d_X1_functionEnd_149 rfl 5 rfl ?_
            refine g_iload hF d_X1_functionEnd_150 1 rfl ?_
            refine g_if_eq (xv := 1) hF 174 d_X1_functionEnd_152 (by decide) (by decide) (fun c_152 => absurd c_152 (by decide)) (fun _ => ?_)
            refine g_aload_n hF d_X1_functionEnd_155 rfl 2 rfl ?_
            refine g_get (v := .ref (r 6)) hF 2 obC_8 (by decide) m_491 rfl d_X1_functionEnd_156 ?_
            refine g_getN (v := .ref (r 42)) hF 13 obC_6 (by decide) nm_338 rfl d_X1_functionEnd_159 ?_
            refine g_iload hF d_X1_functionEnd_162 6 rfl ?_
            refine g_callSN (As := [.ref (r 42), .int x5]) (rest := [.int x3]) hF (c_at a g r (upF σ 48 g17) arC_42 (by decide) x5) (Nat.le_of_ble_eq_true rfl) mS_X12_at nm_1356 rfl rfl (Nat.le_of_ble_eq_true rfl) d_X1_functionEnd_164 (k_rop (fun r20 hr20 => ?_))
            refine g_iconst hF (v := 1) d_X1_functionEnd_167 (by decide) ?_
            refine g_mmax hF (Nat.le_of_ble_eq_true rfl) m_1463 m_1131 m_23 m_1132 (Nat.le_of_ble_eq_true rfl) d_X1_functionEnd_168 ?_
            refine g_nm (fun v22 ev22 => ?_)
            have mv22 := s_max ev22
            refine g_goto hF 175 d_X1_functionEnd_171 (by decide) ?_
            refine g_iadd hF d_X1_functionEnd_175 ?_
            refine g_istore_n hF [(3, .int (x3 + v22)), (4, .int v19), (6, .int 1), (0, .ref (r 8)), (1, .int x1), (2, .int x2), (5, .int x5)] d_X1_functionEnd_176 rfl hnn (by decide) rfl ?_
            refine g_iinc hF (x5 + 1) [(5, .int (x5 + 1)), (3, .int (x3 + v22)), (4, .int v19), (6, .int 1), (0, .ref (r 8)), (1, .int x1), (2, .int x2)] d_X1_functionEnd_177 6 rfl rfl hnn (by decide) rfl ?_
            refine g_goto hF 72 d_X1_functionEnd_180 (by decide) ?_
            have j23 : Inv (upF σ 48 g17) := ⟨inv.1, inv.2.1, inv.2.2.1, inv.2.2.2.1, inv.2.2.2.2.1, inv.2.2.2.2.2.1, inv.2.2.2.2.2.2.1, inv.2.2.2.2.2.2.2.1, inv.2.2.2.2.2.2.2.2.1, inv.2.2.2.2.2.2.2.2.2.1, inv.2.2.2.2.2.2.2.2.2.2.1, inv.2.2.2.2.2.2.2.2.2.2.2.1, inv.2.2.2.2.2.2.2.2.2.2.2.2.1, inv.2.2.2.2.2.2.2.2.2.2.2.2.2.1, inv.2.2.2.2.2.2.2.2.2.2.2.2.2.2.1, inv.2.2.2.2.2.2.2.2.2.2.2.2.2.2.2.1, inv.2.2.2.2.2.2.2.2.2.2.2.2.2.2.2.2.1, inv.2.2.2.2.2.2.2.2.2.2.2.2.2.2.2.2.2.1, inv.2.2.2.2.2.2.2.2.2.2.2.2.2.2.2.2.2.2.1, inv.2.2.2.2.2.2.2.2.2.2.2.2.2.2.2.2.2.2.2⟩
            exact g_sub (L' := [(0, .ref (r 8)), (1, .int x1), (2, .int x2), (3, .int (x3 + v22)), (4, .int v19), (5, .int (x5 + 1))]) [4, 5, 6, 1, 2, 0] rfl (ih72 _ (N72 ▸ upm_lt c1_81 (s_rng (σ 6 10)).2) (upF σ 48 g17) x1 x2 (x3 + v22) v19 (x5 + 1) rfl j23 kp)
          · -- not taken at 135
            refine g_iconst hF (v := 1) d_X1_functionEnd_138 (by decide) ?_
            refine g_iload hF d_X1_functionEnd_139 6 rfl ?_
            refine g_ishl hF d_X1_functionEnd_141 ?_
            refine g_any (fun v24 => ?_)
            refine g_goto hF 146 d_X1_functionEnd_142 (by decide) ?_
            refine g_ior hF d_X1_functionEnd_146 ?_
            refine g_any (fun v25 => ?_)
            refine g_istore hF [(4, .int v25), (6, .int 1), (0, .ref (r 8)), (1, .int x1), (2, .int x2), (3, .int x3), (5, .int x5)] d_X1_functionEnd_147 hnn (by decide) rfl ?_
            refine g_iload_n hF d_X1_functionEnd_149 rfl 5 rfl ?_
            refine g_iload hF d_X1_functionEnd_150 1 rfl ?_
            refine g_if_eq (xv := 1) hF 174 d_X1_functionEnd_152 (by decide) (by decide) (fun c_152 => absurd c_152 (by decide)) (fun _ => ?_)
            refine g_aload_n hF d_X1_functionEnd_155 rfl 2 rfl ?_
            refine g_get (v := .ref (r 6)) hF 2 obC_8 (by decide) m_491 rfl d_X1_functionEnd_156 ?_
            refine g_getN (v := .ref (r 42)) hF 13 obC_6 (by decide) nm_338 rfl d_X1_functionEnd_159 ?_
            refine g_iload hF d_X1_functionEnd_162 6 rfl ?_
            refine g_callSN (As := [.ref (r 42), .int x5]) (rest := [.int x3]) hF (c_at a g r (upF σ 48 g17) arC_42 (by decide) x5) (Nat.le_of_ble_eq_true rfl) mS_X12_at nm_1356 rfl rfl (Nat.le_of_ble_eq_true rfl) d_X1_functionEnd_164 (k_rop (fun r26 hr26 => ?_))
            refine g_iconst hF (v := 1) d_X1_functionEnd_167 (by decide) ?_
            refine g_mmax hF (Nat.le_of_ble_eq_true rfl) m_1463 m_1131 m_23 m_1132 (Nat.le_of_ble_eq_true rfl) d_X1_functionEnd_168 ?_
            refine g_nm (fun v28 ev28 => ?_)
            have mv28 := s_max ev28
            refine g_goto hF 175 d_X1_functionEnd_171 (by decide) ?_
            refine g_iadd hF d_X1_functionEnd_175 ?_
            refine g_istore_n hF [(3, .int (x3 + v28)), (4, .int v25), (6, .int 1), (0, .ref (r 8)), (1, .int x1), (2, .int x2), (5, .int x5)] d_X1_functionEnd_176 rfl hnn (by decide) rfl ?_
            refine g_iinc hF (x5 + 1) [(5, .int (x5 + 1)), (3, .int (x3 + v28)), (4, .int v25), (6, .int 1), (0, .ref (r 8)), (1, .int x1), (2, .int x2)] d_X1_functionEnd_177 6 rfl rfl hnn (by decide) rfl ?_
            refine g_goto hF 72 d_X1_functionEnd_180 (by decide) ?_
            have j29 : Inv (upF σ 48 g17) := ⟨inv.1, inv.2.1, inv.2.2.1, inv.2.2.2.1, inv.2.2.2.2.1, inv.2.2.2.2.2.1, inv.2.2.2.2.2.2.1, inv.2.2.2.2.2.2.2.1, inv.2.2.2.2.2.2.2.2.1, inv.2.2.2.2.2.2.2.2.2.1, inv.2.2.2.2.2.2.2.2.2.2.1, inv.2.2.2.2.2.2.2.2.2.2.2.1, inv.2.2.2.2.2.2.2.2.2.2.2.2.1, inv.2.2.2.2.2.2.2.2.2.2.2.2.2.1, inv.2.2.2.2.2.2.2.2.2.2.2.2.2.2.1, inv.2.2.2.2.2.2.2.2.2.2.2.2.2.2.2.1, inv.2.2.2.2.2.2.2.2.2.2.2.2.2.2.2.2.1, inv.2.2.2.2.2.2.2.2.2.2.2.2.2.2.2.2.2.1, inv.2.2.2.2.2.2.2.2.2.2.2.2.2.2.2.2.2.2.1, inv.2.2.2.2.2.2.2.2.2.2.2.2.2.2.2.2.2.2.2⟩
            exact g_sub (L' := [(0, .ref (r 8)), (1, .int x1), (2, .int x2), (3, .int (x3 + v28)), (4, .int v25), (5, .int (x5 + 1))]) [4, 5, 6, 1, 2, 0] rfl (ih72 _ (N72 ▸ upm_lt c1_81 (s_rng (σ 6 10)).2) (upF σ 48 g17) x1 x2 (x3 + v28) v25 (x5 + 1) rfl j29 kp)
  have kp : Keep [(4, 1), (6, 6), (6, 10), (6, 15), (6, 17)] [24, 48] σ0 σ0 := keep_rf
  refine g_aload_n hF d_X1_functionEnd_0 rfl 0 rfl ?_
  refine g_get (v := .ref (r 4)) hF 4 obC_8 (by decide) m_493 rfl d_X1_functionEnd_1 ?_
  refine g_iconst hF (v := 1) d_X1_functionEnd_4 (by decide) ?_
  refine g_iconst hF (v := 0) d_X1_functionEnd_5 (by decide) ?_
  refine g_iconst hF (v := 0) d_X1_functionEnd_6 (by decide) ?_
  refine g_iconst hF (v := 0) d_X1_functionEnd_7 (by decide) ?_
  refine g_callVN (As := [.int 1, .int 0, .int 0, .int 0]) (rest := []) hF (c_X0_emit a g r σ0 (1 : Int32) (0 : Int32) (0 : Int32) (0 : Int32) i0) (Nat.le_of_ble_eq_true rfl) mV_X0_emit nm_1379 (recv_ob obC_4) rfl rfl (Nat.le_of_ble_eq_true rfl) d_X1_functionEnd_8 (k_i (fun r30 σ30 ⟨iσ30, ik30⟩ => ?_))
  have kp : Keep [(4, 1), (6, 6), (6, 10), (6, 15), (6, 17)] [24, 48] σ0 σ30 := keep_c kp ik30 (by decide) (by decide)
  refine g_pop hF d_X1_functionEnd_11 rfl ?_
  refine g_aload_n hF d_X1_functionEnd_12 rfl 0 rfl ?_
  refine g_get (v := .ref (r 4)) hF 4 obC_8 (by decide) m_493 rfl d_X1_functionEnd_13 ?_
  refine g_bipush hF (v := 33) d_X1_functionEnd_16 (by decide) ?_
  refine g_iconst hF (v := 0) d_X1_functionEnd_18 (by decide) ?_
  refine g_iconst hF (v := 0) d_X1_functionEnd_19 (by decide) ?_
  refine g_iconst hF (v := 0) d_X1_functionEnd_20 (by decide) ?_
  refine g_callVN (As := [.int 33, .int 0, .int 0, .int 0]) (rest := []) hF (c_X0_emit a g r σ30 (33 : Int32) (0 : Int32) (0 : Int32) (0 : Int32) iσ30) (Nat.le_of_ble_eq_true rfl) mV_X0_emit nm_1379 (recv_ob obC_4) rfl rfl (Nat.le_of_ble_eq_true rfl) d_X1_functionEnd_21 (k_i (fun r31 σ31 ⟨iσ31, ik31⟩ => ?_))
  have kp : Keep [(4, 1), (6, 6), (6, 10), (6, 15), (6, 17)] [24, 48] σ0 σ31 := keep_c kp ik31 (by decide) (by decide)
  refine g_pop hF d_X1_functionEnd_24 rfl ?_
  refine g_aload_n hF d_X1_functionEnd_25 rfl 0 rfl ?_
  refine g_get (v := .ref (r 5)) hF 3 obC_8 (by decide) m_492 rfl d_X1_functionEnd_26 ?_
  refine g_getN (v := .ref (r 28)) hF 5 obC_5 (by decide) nm_235 rfl d_X1_functionEnd_29 ?_
  refine g_aload_n hF d_X1_functionEnd_32 rfl 0 rfl ?_
  refine g_get (v := .ref (r 6)) hF 2 obC_8 (by decide) m_491 rfl d_X1_functionEnd_33 ?_
  refine g_getN (v := .int (σ31 6 6)) hF 6 obC_6 (by decide) nm_325 rfl d_X1_functionEnd_36 ?_
  refine g_top (v := (σ0 6 6)) ((ik31 6 6 rfl rfl rfl).trans (ik30 6 6 rfl rfl rfl)) ?_
  refine g_callSN (As := [.ref (r 28), .int (σ0 6 6)]) (rest := []) hF (c_at a g r σ31 arC_28 (by decide) (σ0 6 6)) (Nat.le_of_ble_eq_true rfl) mS_X12_at nm_1356 rfl rfl (Nat.le_of_ble_eq_true rfl) d_X1_functionEnd_39 (k_rop (fun r32 hr32 => ?_))
  refine g_istore_n hF [(1, .int r32), (0, .ref (r 8))] d_X1_functionEnd_42 rfl hnn (by decide) rfl ?_
  refine g_aload_n hF d_X1_functionEnd_43 rfl 1 rfl ?_
  refine g_get (v := .ref (r 5)) hF 3 obC_8 (by decide) m_492 rfl d_X1_functionEnd_44 ?_
  refine g_getN (v := .ref (r 27)) hF 4 obC_5 (by decide) nm_232 rfl d_X1_functionEnd_47 ?_
  refine g_aload_n hF d_X1_functionEnd_50 rfl 1 rfl ?_
  refine g_get (v := .ref (r 6)) hF 2 obC_8 (by decide) m_491 rfl d_X1_functionEnd_51 ?_
  refine g_getN (v := .int (σ31 6 6)) hF 6 obC_6 (by decide) nm_325 rfl d_X1_functionEnd_54 ?_
  refine g_top (v := (σ0 6 6)) ((ik31 6 6 rfl rfl rfl).trans (ik30 6 6 rfl rfl rfl)) ?_
  refine g_callSN (As := [.ref (r 27), .int (σ0 6 6)]) (rest := []) hF (c_at a g r σ31 arC_27 (by decide) (σ0 6 6)) (Nat.le_of_ble_eq_true rfl) mS_X12_at nm_1356 rfl rfl (Nat.le_of_ble_eq_true rfl) d_X1_functionEnd_57 (k_rop (fun r33 hr33 => ?_))
  refine g_callSN (As := [.int r33]) (rest := []) hF (c_X8_parameters a g r σ31 r33 iσ31) (Nat.le_of_ble_eq_true rfl) mS_X8_parameters nm_1462 rfl rfl (Nat.le_of_ble_eq_true rfl) d_X1_functionEnd_60 (k_ro (fun r34 => ?_))
  refine g_istore_n hF [(2, .int r34), (1, .int r32), (0, .ref (r 8))] d_X1_functionEnd_63 rfl hnn (by decide) rfl ?_
  refine g_iconst hF (v := 0) d_X1_functionEnd_64 (by decide) ?_
  refine g_istore_n hF [(3, .int 0), (2, .int r34), (1, .int r32), (0, .ref (r 8))] d_X1_functionEnd_65 rfl hnn (by decide) rfl ?_
  refine g_iconst hF (v := 0) d_X1_functionEnd_66 (by decide) ?_
  refine g_istore hF [(4, .int 0), (3, .int 0), (2, .int r34), (1, .int r32), (0, .ref (r 8))] d_X1_functionEnd_67 hnn (by decide) rfl ?_
  refine g_iconst hF (v := 0) d_X1_functionEnd_69 (by decide) ?_
  refine g_istore hF [(5, .int 0), (4, .int 0), (3, .int 0), (2, .int r34), (1, .int r32), (0, .ref (r 8))] d_X1_functionEnd_70 hnn (by decide) rfl ?_
  exact g_sub (L' := [(0, .ref (r 8)), (1, .int r32), (2, .int r34), (3, .int 0), (4, .int 0), (5, .int 0)]) [5, 4, 3, 2, 1, 0] rfl (b72 _ σ31 r32 r34 (0 : Int32) (0 : Int32) (0 : Int32) rfl iσ31 kp)
set_option maxHeartbeats 4000000 in
set_option maxRecDepth 100000 in
theorem c_X8_forget (a : Nat → Nat) (g : Nat → Nat → Int32) (r : Nat → Nat) (σ0 : St) (i0 : Inv σ0) (l : Launch) (D : va_G) (cy : Nat → ClassId) : Ct l D cy SC r (EC a g) y_X8_forget (Cond.code y_X8_forget b_X8_forget 1 none) 2 [.ref (r 5)] σ0 Z0 [] (QV (fun σ9 => (Inv σ9 ∧ Keep [(4, 1), (5, 1), (5, 7), (5, 9)] [] σ0 σ9))) QF := by
  refine Ct_of (EC_ok a g) (by decide) (Nat.le_of_ble_eq_true rfl) (by decide) (fun X hnn hF => ?_)
  show G SC r X σ0 Z0 [] [(0, .ref (r 5))] [] 0
  have kp : Keep [(4, 1), (5, 1), (5, 7), (5, 9)] [] σ0 σ0 := keep_rf
  refine g_aload_n hF d_X8_forget_0 rfl 0 rfl ?_
  refine g_aload_n hF d_X8_forget_1 rfl 0 rfl ?_
  refine g_get (v := .ref (r 34)) hF 14 obC_5 (by decide) m_252 rfl d_X8_forget_2 ?_
  refine g_aload_n hF d_X8_forget_5 rfl 0 rfl ?_
  refine g_get (v := .int (σ0 5 13)) hF 13 obC_5 (by decide) m_249 rfl d_X8_forget_6 ?_
  refine g_callSN (As := [.ref (r 34), .int (σ0 5 13)]) (rest := [.ref (r 5)]) hF (c_at a g r σ0 arC_34 (by decide) (σ0 5 13)) (Nat.le_of_ble_eq_true rfl) mS_X12_at nm_1125 rfl rfl (Nat.le_of_ble_eq_true rfl) d_X8_forget_9 (k_rop (fun r1 hr1 => ?_))
  have hr1 : 0 ≤ r1.toInt ∧ r1.toInt ≤ 10100 := acr_at i0.2.2.2.2.2.2.2.2.2.2.2.2.2.1 (by decide) (by decide) (hr1.imp And.left (fun h => ⟨_, h.2⟩))
  refine g_put (v := r1) hF 1 obC_5 (by decide) m_222 rfl rfl rfl d_X8_forget_12 ?_
  have kp : Keep [(4, 1), (5, 1), (5, 7), (5, 9)] [] σ0 (upC σ0 5 1 r1) := keep_f kp (by decide)
  have p2 : 0 ≤ r1.toInt ∧ r1.toInt ≤ 10100 := (by have e0 := s_rng r1; omega)
  refine g_aload_n hF d_X8_forget_15 rfl 0 rfl ?_
  refine g_aload_n hF d_X8_forget_16 rfl 0 rfl ?_
  refine g_aload_n hF d_X8_forget_17 rfl 0 rfl ?_
  refine g_get (v := .int r1) hF 1 obC_5 (by decide) m_222 rfl d_X8_forget_18 ?_
  have j4 : Inv (upC σ0 5 1 r1) := ⟨i0.1, i0.2.1, p2, i0.2.2.2.1, i0.2.2.2.2.1, i0.2.2.2.2.2.1, i0.2.2.2.2.2.2.1, i0.2.2.2.2.2.2.2.1, i0.2.2.2.2.2.2.2.2.1, i0.2.2.2.2.2.2.2.2.2.1, i0.2.2.2.2.2.2.2.2.2.2.1, i0.2.2.2.2.2.2.2.2.2.2.2.1, i0.2.2.2.2.2.2.2.2.2.2.2.2.1, i0.2.2.2.2.2.2.2.2.2.2.2.2.2.1, i0.2.2.2.2.2.2.2.2.2.2.2.2.2.2.1, i0.2.2.2.2.2.2.2.2.2.2.2.2.2.2.2.1, i0.2.2.2.2.2.2.2.2.2.2.2.2.2.2.2.2.1, i0.2.2.2.2.2.2.2.2.2.2.2.2.2.2.2.2.2.1, i0.2.2.2.2.2.2.2.2.2.2.2.2.2.2.2.2.2.2.1, i0.2.2.2.2.2.2.2.2.2.2.2.2.2.2.2.2.2.2.2⟩
  refine g_callV (As := [.int r1]) (rest := [.ref (r 5)]) hF (c_X8_nameStart a g r (upC σ0 5 1 r1) r1 j4) (Nat.le_of_ble_eq_true rfl) mV_X8_nameStart m_1492 (recv_ob obC_5) rfl rfl (Nat.le_of_ble_eq_true rfl) d_X8_forget_21 (k_rop (fun r3 hp3 => ?_)) (fun _ _ _ h => h.elim)
  have hp3 : 0 ≤ r3.toInt ∧ r3.toInt ≤ 65600 := hp3
  refine g_put (v := r3) hF 7 obC_5 (by decide) m_239 rfl rfl rfl d_X8_forget_24 ?_
  have kp : Keep [(4, 1), (5, 1), (5, 7), (5, 9)] [] σ0 (upC (upC σ0 5 1 r1) 5 7 r3) := keep_f kp (by decide)
  have p5 : 0 ≤ r3.toInt ∧ r3.toInt ≤ 65600 := (by have e0 := s_rng r3; have e1 := s_rng r1; omega)
  refine g_aload_n hF d_X8_forget_27 rfl 0 rfl ?_
  refine g_aload_n hF d_X8_forget_28 rfl 0 rfl ?_
  refine g_get (v := .ref (r 35)) hF 15 obC_5 (by decide) m_254 rfl d_X8_forget_29 ?_
  refine g_aload_n hF d_X8_forget_32 rfl 0 rfl ?_
  refine g_get (v := .int (σ0 5 13)) hF 13 obC_5 (by decide) m_249 rfl d_X8_forget_33 ?_
  refine g_callSN (As := [.ref (r 35), .int (σ0 5 13)]) (rest := [.ref (r 5)]) hF (c_at a g r (upC (upC σ0 5 1 r1) 5 7 r3) arC_35 (by decide) (σ0 5 13)) (Nat.le_of_ble_eq_true rfl) mS_X12_at nm_1125 rfl rfl (Nat.le_of_ble_eq_true rfl) d_X8_forget_36 (k_rop (fun r6 hr6 => ?_))
  refine g_put (v := r6) hF 9 obC_5 (by decide) m_242 rfl rfl rfl d_X8_forget_39 ?_
  have kp : Keep [(4, 1), (5, 1), (5, 7), (5, 9)] [] σ0 (upC (upC (upC σ0 5 1 r1) 5 7 r3) 5 9 r6) := keep_f kp (by decide)
  refine g_aload_n hF d_X8_forget_42 rfl 0 rfl ?_
  refine g_get (v := .ref (r 4)) hF 0 obC_5 (by decide) m_221 rfl d_X8_forget_43 ?_
  refine g_aload_n hF d_X8_forget_46 rfl 0 rfl ?_
  refine g_get (v := .ref (r 36)) hF 16 obC_5 (by decide) m_256 rfl d_X8_forget_47 ?_
  refine g_aload_n hF d_X8_forget_50 rfl 0 rfl ?_
  refine g_get (v := .int (σ0 5 13)) hF 13 obC_5 (by decide) m_249 rfl d_X8_forget_51 ?_
  refine g_callSN (As := [.ref (r 36), .int (σ0 5 13)]) (rest := [.ref (r 4)]) hF (c_at a g r (upC (upC (upC σ0 5 1 r1) 5 7 r3) 5 9 r6) arC_36 (by decide) (σ0 5 13)) (Nat.le_of_ble_eq_true rfl) mS_X12_at nm_1125 rfl rfl (Nat.le_of_ble_eq_true rfl) d_X8_forget_54 (k_rop (fun r7 hr7 => ?_))
  have j9 : Inv (upC (upC (upC σ0 5 1 r1) 5 7 r3) 5 9 r6) := ⟨j4.1, j4.2.1, j4.2.2.1, p5, j4.2.2.2.2.1, j4.2.2.2.2.2.1, j4.2.2.2.2.2.2.1, j4.2.2.2.2.2.2.2.1, j4.2.2.2.2.2.2.2.2.1, j4.2.2.2.2.2.2.2.2.2.1, j4.2.2.2.2.2.2.2.2.2.2.1, j4.2.2.2.2.2.2.2.2.2.2.2.1, j4.2.2.2.2.2.2.2.2.2.2.2.2.1, j4.2.2.2.2.2.2.2.2.2.2.2.2.2.1, j4.2.2.2.2.2.2.2.2.2.2.2.2.2.2.1, j4.2.2.2.2.2.2.2.2.2.2.2.2.2.2.2.1, j4.2.2.2.2.2.2.2.2.2.2.2.2.2.2.2.2.1, j4.2.2.2.2.2.2.2.2.2.2.2.2.2.2.2.2.2.1, j4.2.2.2.2.2.2.2.2.2.2.2.2.2.2.2.2.2.2.1, j4.2.2.2.2.2.2.2.2.2.2.2.2.2.2.2.2.2.2.2⟩
  refine g_callVN (As := [.int r7]) (rest := []) hF (c_X0_cut a g r (upC (upC (upC σ0 5 1 r1) 5 7 r3) 5 9 r6) r7 j9) (Nat.le_of_ble_eq_true rfl) mV_X0_cut nm_1496 (recv_ob obC_4) rfl rfl (Nat.le_of_ble_eq_true rfl) d_X8_forget_57 (k_v (fun σ8 ⟨iσ8, ik8⟩ => ?_))
  have kp : Keep [(4, 1), (5, 1), (5, 7), (5, 9)] [] σ0 σ8 := keep_c kp ik8 (by decide) (by decide)
  exact g_vret hF rfl d_X8_forget_60 ⟨rfl, rfl, rfl, ⟨iσ8, kp⟩⟩
