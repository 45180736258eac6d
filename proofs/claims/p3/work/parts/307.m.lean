set_option maxHeartbeats 4000000 in
set_option maxRecDepth 100000 in
theorem c_X2_call (a : Nat → Nat) (g : Nat → Nat → Int32) (r : Nat → Nat) (σ0 : St) (a1 : Int32) (i0 : Inv σ0) (l : Launch) (D : va_G) (cy : Nat → ClassId) : Ct l D cy SC r (EC a g) y_X2_call (Cond.code y_X2_call b_X2_call 3 none) 2 [.ref (r 7), .int a1] σ0 Z0 [] (QV (fun σ9 => (Inv σ9 ∧ Keep [(4, 1), (6, 3), (6, 4)] [24] σ0 σ9))) QF := by
  refine Ct_of (EC_ok a g) (by decide) (Nat.le_of_ble_eq_true rfl) (by decide) (fun X hnn hF => ?_)
  show G SC r X σ0 Z0 [] [(0, .ref (r 7)), (1, .int a1)] [] 0
  have kp : Keep [(4, 1), (6, 3), (6, 4)] [24] σ0 σ0 := keep_rf
  refine g_aload_n hF d_X2_call_0 rfl 0 rfl ?_
  refine g_callV (As := []) (rest := []) hF (c_X2_top a g r σ0 i0) (Nat.le_of_ble_eq_true rfl) mV_X2_top m_1160 (recv_ob obC_7) rfl rfl (Nat.le_of_ble_eq_true rfl) d_X2_call_1 (k_roa (fun q1 hq1 => ?_)) (fun _ _ _ h => h.elim)
  refine g_astore_n hF [(2, .ref (r q1)), (0, .ref (r 7)), (1, .int a1)] d_X2_call_4 rfl hnn (by decide) rfl ?_
  refine g_aload_n hF d_X2_call_5 rfl 0 rfl ?_
  refine g_getN hF 12 (obC_op hq1) (by decide) nm_428 (fval_op hq1) d_X2_call_6 ?_
  refine g_any (fun v2 => ?_)
  refine g_if_ne hF 36 d_X2_call_9 (by decide) rfl (fun c3_9 => ?_) (fun c3_9 => ?_)
  · -- taken at 9
    refine g_aload_n hF d_X2_call_36 rfl 1 rfl ?_
    refine g_iload_n hF d_X2_call_37 rfl 2 rfl ?_
    refine g_callV (As := [.int a1]) (rest := []) hF (c_X2_refuse a g r σ0 a1 i0) (Nat.le_of_ble_eq_true rfl) mV_X2_refuse m_1126 (recv_ob obC_7) rfl rfl (Nat.le_of_ble_eq_true rfl) d_X2_call_38 (k_v (fun σ4 ⟨iσ4, ik4⟩ => ?_)) (fun _ _ _ h => h.elim)
    have kp : Keep [(4, 1), (6, 3), (6, 4)] [24] σ0 σ4 := keep_c kp ik4 (by decide) (by decide)
    refine g_aload_n hF d_X2_call_41 rfl 1 rfl ?_
    refine g_get (v := .ref (r 4)) hF 4 obC_7 (by decide) m_461 rfl d_X2_call_42 ?_
    refine g_bipush hF (v := 32) d_X2_call_45 (by decide) ?_
    refine g_aload_n hF d_X2_call_47 rfl 0 rfl ?_
    refine g_getN hF 4 (obC_op hq1) (by decide) nm_408 (fval_op hq1) d_X2_call_48 ?_
    refine g_any (fun v5 => ?_)
    refine g_aload_n hF d_X2_call_51 rfl 1 rfl ?_
    refine g_iload_n hF d_X2_call_52 rfl 2 rfl ?_
    refine g_callV (As := [.int a1]) (rest := [.int v5, .int 32, .ref (r 4)]) hF (c_X2_lineOf a g r σ4 a1 iσ4) (Nat.le_of_ble_eq_true rfl) mV_X2_lineOf m_1182 (recv_ob obC_7) rfl rfl (Nat.le_of_ble_eq_true rfl) d_X2_call_53 (k_ro (fun r6 => ?_)) (fun _ _ _ h => h.elim)
    refine g_iconst hF (v := 0) d_X2_call_56 (by decide) ?_
    refine g_callVN (As := [.int 32, .int v5, .int r6, .int 0]) (rest := []) hF (c_X0_emit a g r σ4 (32 : Int32) v5 r6 (0 : Int32) iσ4) (Nat.le_of_ble_eq_true rfl) mV_X0_emit nm_1071 (recv_ob obC_4) rfl rfl (Nat.le_of_ble_eq_true rfl) d_X2_call_57 (k_i (fun r7 σ7 ⟨iσ7, ik7⟩ => ?_))
    have kp : Keep [(4, 1), (6, 3), (6, 4)] [24] σ0 σ7 := keep_c kp ik7 (by decide) (by decide)
    refine g_pop hF d_X2_call_60 rfl ?_
    refine g_aload_n hF d_X2_call_61 rfl 0 rfl ?_
    refine g_aload_n hF d_X2_call_62 rfl 0 rfl ?_
    refine g_getN hF 1 (obC_op hq1) (by decide) nm_402 (fval_op hq1) d_X2_call_63 ?_
    refine g_any (fun v8 => ?_)
    refine g_iconst hF (v := 0) d_X2_call_66 (by decide) ?_
    refine g_callVN (As := [.int v8, .int 0]) (rest := []) hF (c_X6_become a g r σ7 v8 (0 : Int32) q1 hq1 iσ7) (Nat.le_of_ble_eq_true rfl) mV_X6_become nm_1100 (recv_ob (obC_op hq1)) rfl rfl (Nat.le_of_ble_eq_true rfl) d_X2_call_67 (k_v (fun σ9 ⟨iσ9, ik9⟩ => ?_))
    have kp : Keep [(4, 1), (6, 3), (6, 4)] [24] σ0 σ9 := keep_c kp ik9 (by decide) (by decide)
    refine g_aload_n hF d_X2_call_70 rfl 1 rfl ?_
    refine g_aload_n hF d_X2_call_71 rfl 0 rfl ?_
    refine g_aload_n hF d_X2_call_72 rfl 0 rfl ?_
    refine g_getN hF 2 (obC_op hq1) (by decide) nm_404 (fval_op hq1) d_X2_call_73 ?_
    refine g_any (fun v10 => ?_)
    refine g_iconst hF (v := 1) d_X2_call_76 (by decide) ?_
    refine g_iadd hF d_X2_call_77 ?_
    refine g_iload_n hF d_X2_call_78 rfl 2 rfl ?_
    refine g_callV (As := [.ref (r q1), .int (v10 + 1), .int a1]) (rest := []) hF (c_X2_raise a g r σ9 (v10 + 1) a1 q1 hq1 iσ9) (Nat.le_of_ble_eq_true rfl) mV_X2_raise m_1186 (recv_ob obC_7) rfl rfl (Nat.le_of_ble_eq_true rfl) d_X2_call_79 (k_v (fun σ11 ⟨iσ11, ik11⟩ => ?_)) (fun _ _ _ h => h.elim)
    have kp : Keep [(4, 1), (6, 3), (6, 4)] [24] σ0 σ11 := keep_c kp ik11 (by decide) (by decide)
    exact g_vret hF rfl d_X2_call_82 ⟨rfl, rfl, rfl, ⟨iσ11, kp⟩⟩
  · -- not taken at 9
    refine g_aload_n hF d_X2_call_12 rfl 0 rfl ?_
    refine g_getN hF 11 (obC_op hq1) (by decide) nm_426 (fval_op hq1) d_X2_call_13 ?_
    refine g_any (fun v12 => ?_)
    refine g_aload_n hF d_X2_call_16 rfl 1 rfl ?_
    refine g_get (v := .ref (r 5)) hF 3 obC_7 (by decide) m_459 rfl d_X2_call_17 ?_
    refine g_getN (v := .ref (r 27)) hF 4 obC_5 (by decide) nm_233 rfl d_X2_call_20 ?_
    refine g_aload_n hF d_X2_call_23 rfl 0 rfl ?_
    refine g_getN hF 4 (obC_op hq1) (by decide) nm_408 (fval_op hq1) d_X2_call_24 ?_
    refine g_any (fun v13 => ?_)
    refine g_callSN (As := [.ref (r 27), .int v13]) (rest := [.int v12]) hF (c_at a g r σ0 arC_27 (by decide) v13) (Nat.le_of_ble_eq_true rfl) mS_X12_at nm_1058 rfl rfl (Nat.le_of_ble_eq_true rfl) d_X2_call_27 (k_rop (fun r14 hr14 => ?_))
    refine g_callSN (As := [.int r14]) (rest := [.int v12]) hF (c_X8_parameters a g r σ0 r14 i0) (Nat.le_of_ble_eq_true rfl) mS_X8_parameters nm_1172 rfl rfl (Nat.le_of_ble_eq_true rfl) d_X2_call_30 (k_ro (fun r15 => ?_))
    refine g_icmp_eq hF 41 d_X2_call_33 (by decide) rfl rfl (fun c16_33 => ?_) (fun c16_33 => ?_)
    · -- taken at 33
      refine g_aload_n hF d_X2_call_41 rfl 1 rfl ?_
      refine g_get (v := .ref (r 4)) hF 4 obC_7 (by decide) m_461 rfl d_X2_call_42 ?_
      refine g_bipush hF (v := 32) d_X2_call_45 (by decide) ?_
      refine g_aload_n hF d_X2_call_47 rfl 0 rfl ?_
      refine g_getN hF 4 (obC_op hq1) (by decide) nm_408 (fval_op hq1) d_X2_call_48 ?_
      refine g_any (fun v17 => ?_)
      refine g_aload_n hF d_X2_call_51 rfl 1 rfl ?_
      refine g_iload_n hF d_X2_call_52 rfl 2 rfl ?_
      refine g_callV (As := [.int a1]) (rest := [.int v17, .int 32, .ref (r 4)]) hF (c_X2_lineOf a g r σ0 a1 i0) (Nat.le_of_ble_eq_true rfl) mV_X2_lineOf m_1182 (recv_ob obC_7) rfl rfl (Nat.le_of_ble_eq_true rfl) d_X2_call_53 (k_ro (fun r18 => ?_)) (fun _ _ _ h => h.elim)
      refine g_iconst hF (v := 0) d_X2_call_56 (by decide) ?_
      refine g_callVN (As := [.int 32, .int v17, .int r18, .int 0]) (rest := []) hF (c_X0_emit a g r σ0 (32 : Int32) v17 r18 (0 : Int32) i0) (Nat.le_of_ble_eq_true rfl) mV_X0_emit nm_1071 (recv_ob obC_4) rfl rfl (Nat.le_of_ble_eq_true rfl) d_X2_call_57 (k_i (fun r19 σ19 ⟨iσ19, ik19⟩ => ?_))
      have kp : Keep [(4, 1), (6, 3), (6, 4)] [24] σ0 σ19 := keep_c kp ik19 (by decide) (by decide)
      refine g_pop hF d_X2_call_60 rfl ?_
      refine g_aload_n hF d_X2_call_61 rfl 0 rfl ?_
      refine g_aload_n hF d_X2_call_62 rfl 0 rfl ?_
      refine g_getN hF 1 (obC_op hq1) (by decide) nm_402 (fval_op hq1) d_X2_call_63 ?_
      refine g_any (fun v20 => ?_)
      refine g_iconst hF (v := 0) d_X2_call_66 (by decide) ?_
      refine g_callVN (As := [.int v20, .int 0]) (rest := []) hF (c_X6_become a g r σ19 v20 (0 : Int32) q1 hq1 iσ19) (Nat.le_of_ble_eq_true rfl) mV_X6_become nm_1100 (recv_ob (obC_op hq1)) rfl rfl (Nat.le_of_ble_eq_true rfl) d_X2_call_67 (k_v (fun σ21 ⟨iσ21, ik21⟩ => ?_))
      have kp : Keep [(4, 1), (6, 3), (6, 4)] [24] σ0 σ21 := keep_c kp ik21 (by decide) (by decide)
      refine g_aload_n hF d_X2_call_70 rfl 1 rfl ?_
      refine g_aload_n hF d_X2_call_71 rfl 0 rfl ?_
      refine g_aload_n hF d_X2_call_72 rfl 0 rfl ?_
      refine g_getN hF 2 (obC_op hq1) (by decide) nm_404 (fval_op hq1) d_X2_call_73 ?_
      refine g_any (fun v22 => ?_)
      refine g_iconst hF (v := 1) d_X2_call_76 (by decide) ?_
      refine g_iadd hF d_X2_call_77 ?_
      refine g_iload_n hF d_X2_call_78 rfl 2 rfl ?_
      refine g_callV (As := [.ref (r q1), .int (v22 + 1), .int a1]) (rest := []) hF (c_X2_raise a g r σ21 (v22 + 1) a1 q1 hq1 iσ21) (Nat.le_of_ble_eq_true rfl) mV_X2_raise m_1186 (recv_ob obC_7) rfl rfl (Nat.le_of_ble_eq_true rfl) d_X2_call_79 (k_v (fun σ23 ⟨iσ23, ik23⟩ => ?_)) (fun _ _ _ h => h.elim)
      have kp : Keep [(4, 1), (6, 3), (6, 4)] [24] σ0 σ23 := keep_c kp ik23 (by decide) (by decide)
      exact g_vret hF rfl d_X2_call_82 ⟨rfl, rfl, rfl, ⟨iσ23, kp⟩⟩
    · -- not taken at 33
      refine g_aload_n hF d_X2_call_36 rfl 1 rfl ?_
      refine g_iload_n hF d_X2_call_37 rfl 2 rfl ?_
      refine g_callV (As := [.int a1]) (rest := []) hF (c_X2_refuse a g r σ0 a1 i0) (Nat.le_of_ble_eq_true rfl) mV_X2_refuse m_1126 (recv_ob obC_7) rfl rfl (Nat.le_of_ble_eq_true rfl) d_X2_call_38 (k_v (fun σ24 ⟨iσ24, ik24⟩ => ?_)) (fun _ _ _ h => h.elim)
      have kp : Keep [(4, 1), (6, 3), (6, 4)] [24] σ0 σ24 := keep_c kp ik24 (by decide) (by decide)
      refine g_aload_n hF d_X2_call_41 rfl 1 rfl ?_
      refine g_get (v := .ref (r 4)) hF 4 obC_7 (by decide) m_461 rfl d_X2_call_42 ?_
      refine g_bipush hF (v := 32) d_X2_call_45 (by decide) ?_
      refine g_aload_n hF d_X2_call_47 rfl 0 rfl ?_
      refine g_getN hF 4 (obC_op hq1) (by decide) nm_408 (fval_op hq1) d_X2_call_48 ?_
      refine g_any (fun v25 => ?_)
      refine g_aload_n hF d_X2_call_51 rfl 1 rfl ?_
      refine g_iload_n hF d_X2_call_52 rfl 2 rfl ?_
      refine g_callV (As := [.int a1]) (rest := [.int v25, .int 32, .ref (r 4)]) hF (c_X2_lineOf a g r σ24 a1 iσ24) (Nat.le_of_ble_eq_true rfl) mV_X2_lineOf m_1182 (recv_ob obC_7) rfl rfl (Nat.le_of_ble_eq_true rfl) d_X2_call_53 (k_ro (fun r26 => ?_)) (fun _ _ _ h => h.elim)
      refine g_iconst hF (v := 0) d_X2_call_56 (by decide) ?_
      refine g_callVN (As := [.int 32, .int v25, .int r26, .int 0]) (rest := []) hF (c_X0_emit a g r σ24 (32 : Int32) v25 r26 (0 : Int32) iσ24) (Nat.le_of_ble_eq_true rfl) mV_X0_emit nm_1071 (recv_ob obC_4) rfl rfl (Nat.le_of_ble_eq_true rfl) d_X2_call_57 (k_i (fun r27 σ27 ⟨iσ27, ik27⟩ => ?_))
      have kp : Keep [(4, 1), (6, 3), (6, 4)] [24] σ0 σ27 := keep_c kp ik27 (by decide) (by decide)
      refine g_pop hF d_X2_call_60 rfl ?_
      refine g_aload_n hF d_X2_call_61 rfl 0 rfl ?_
      refine g_aload_n hF d_X2_call_62 rfl 0 rfl ?_
      refine g_getN hF 1 (obC_op hq1) (by decide) nm_402 (fval_op hq1) d_X2_call_63 ?_
      refine g_any (fun v28 => ?_)
      refine g_iconst hF (v := 0) d_X2_call_66 (by decide) ?_
      refine g_callVN (As := [.int v28, .int 0]) (rest := []) hF (c_X6_become a g r σ27 v28 (0 : Int32) q1 hq1 iσ27) (Nat.le_of_ble_eq_true rfl) mV_X6_become nm_1100 (recv_ob (obC_op hq1)) rfl rfl (Nat.le_of_ble_eq_true rfl) d_X2_call_67 (k_v (fun σ29 ⟨iσ29, ik29⟩ => ?_))
      have kp : Keep [(4, 1), (6, 3), (6, 4)] [24] σ0 σ29 := keep_c kp ik29 (by decide) (by decide)
      refine g_aload_n hF d_X2_call_70 rfl 1 rfl ?_
      refine g_aload_n hF d_X2_call_71 rfl 0 rfl ?_
      refine g_aload_n hF d_X2_call_72 rfl 0 rfl ?_
      refine g_getN hF 2 (obC_op hq1) (by decide) nm_404 (fval_op hq1) d_X2_call_73 ?_
      refine g_any (fun v30 => ?_)
      refine g_iconst hF (v := 1) d_X2_call_76 (by decide) ?_
      refine g_iadd hF d_X2_call_77 ?_
      refine g_iload_n hF d_X2_call_78 rfl 2 rfl ?_
      refine g_callV (As := [.ref (r q1), .int (v30 + 1), .int a1]) (rest := []) hF (c_X2_raise a g r σ29 (v30 + 1) a1 q1 hq1 iσ29) (Nat.le_of_ble_eq_true rfl) mV_X2_raise m_1186 (recv_ob obC_7) rfl rfl (Nat.le_of_ble_eq_true rfl) d_X2_call_79 (k_v (fun σ31 ⟨iσ31, ik31⟩ => ?_)) (fun _ _ _ h => h.elim)
      have kp : Keep [(4, 1), (6, 3), (6, 4)] [24] σ0 σ31 := keep_c kp ik31 (by decide) (by decide)
      exact g_vret hF rfl d_X2_call_82 ⟨rfl, rfl, rfl, ⟨iσ31, kp⟩⟩
set_option maxHeartbeats 4000000 in
set_option maxRecDepth 100000 in
theorem c_X2_left (a : Nat → Nat) (g : Nat → Nat → Int32) (r : Nat → Nat) (σ0 : St) (a1 : Int32) (i0 : Inv σ0) (l : Launch) (D : va_G) (cy : Nat → ClassId) : Ct l D cy SC r (EC a g) y_X2_left (Cond.code y_X2_left b_X2_left 4 none) 2 [.ref (r 7), .int a1] σ0 Z0 [] (QV (fun σ9 => (Inv σ9 ∧ Keep [(4, 1)] [24] σ0 σ9))) QF := by
  refine Ct_of (EC_ok a g) (by decide) (Nat.le_of_ble_eq_true rfl) (by decide) (fun X hnn hF => ?_)
  show G SC r X σ0 Z0 [] [(0, .ref (r 7)), (1, .int a1)] [] 0
  have kp : Keep [(4, 1)] [24] σ0 σ0 := keep_rf
  refine g_aload_n hF d_X2_left_0 rfl 0 rfl ?_
  refine g_iload_n hF d_X2_left_1 rfl 1 rfl ?_
  refine g_callV (As := [.int a1]) (rest := []) hF (c_X2_kindOf a g r σ0 a1 i0) (Nat.le_of_ble_eq_true rfl) mV_X2_kindOf m_1194 (recv_ob obC_7) rfl rfl (Nat.le_of_ble_eq_true rfl) d_X2_left_2 (k_ro (fun r1 => ?_)) (fun _ _ _ h => h.elim)
  refine g_istore_n hF [(2, .int r1), (0, .ref (r 7)), (1, .int a1)] d_X2_left_5 rfl hnn (by decide) rfl ?_
  refine g_aload_n hF d_X2_left_6 rfl 1 rfl ?_
  refine g_callV (As := []) (rest := []) hF (c_X2_top a g r σ0 i0) (Nat.le_of_ble_eq_true rfl) mV_X2_top m_1160 (recv_ob obC_7) rfl rfl (Nat.le_of_ble_eq_true rfl) d_X2_left_7 (k_roa (fun q2 hq2 => ?_)) (fun _ _ _ h => h.elim)
  refine g_astore_n hF [(3, .ref (r q2)), (2, .int r1), (0, .ref (r 7)), (1, .int a1)] d_X2_left_10 rfl hnn (by decide) rfl ?_
  refine g_iload_n hF d_X2_left_11 rfl 1 rfl ?_
  refine g_bipush hF (v := 30) d_X2_left_12 (by decide) ?_
  refine g_icmp_le (yv := 30) hF 36 d_X2_left_14 (by decide) rfl (by decide) (fun c3_14 => ?_) (fun c3_14 => ?_)
  · -- taken at 14
    refine g_iload_n hF d_X2_left_36 rfl 1 rfl ?_
    refine g_bipush hF (v := 30) d_X2_left_37 (by decide) ?_
    refine g_icmp_eq (yv := 30) hF 48 d_X2_left_39 (by decide) rfl (by decide) (fun c4_39 => ?_) (fun c4_39 => ?_)
    · -- taken at 39
      refine g_iload_n hF d_X2_left_48 rfl 1 rfl ?_
      refine g_bipush hF (v := 58) d_X2_left_49 (by decide) ?_
      refine g_icmp_eq (yv := 58) hF 60 d_X2_left_51 (by decide) rfl (by decide) (fun c5_51 => ?_) (fun c5_51 => ?_)
      · -- taken at 51
        refine g_aload_n hF d_X2_left_60 rfl 0 rfl ?_
        refine g_aload_n hF d_X2_left_61 rfl 2 rfl ?_
        refine g_get (v := .ref (r 4)) hF 4 obC_7 (by decide) m_461 rfl d_X2_left_62 ?_
        refine g_iload_n hF d_X2_left_65 rfl 1 rfl ?_
        refine g_bipush hF (v := 58) d_X2_left_66 (by decide) ?_
        refine g_icmp_ne (yv := 58) hF 76 d_X2_left_68 (by decide) rfl (by decide) (fun c6_68 => ?_) (fun c6_68 => ?_)
        · -- taken at 68
          refine g_bipush hF (v := 30) d_X2_left_76 (by decide) ?_
          refine g_iconst hF (v := (-1)) d_X2_left_78 (by decide) ?_
          refine g_iconst hF (v := 0) d_X2_left_79 (by decide) ?_
          refine g_iconst hF (v := 0) d_X2_left_80 (by decide) ?_
          refine g_callVN (As := [.int 30, .int (-1), .int 0, .int 0]) (rest := [.ref (r q2)]) hF (c_X0_emit a g r σ0 (30 : Int32) ((-1) : Int32) (0 : Int32) (0 : Int32) i0) (Nat.le_of_ble_eq_true rfl) mV_X0_emit nm_1071 (recv_ob obC_4) rfl rfl (Nat.le_of_ble_eq_true rfl) d_X2_left_81 (k_i (fun r7 σ7 ⟨iσ7, ik7⟩ => ?_))
          have kp : Keep [(4, 1)] [24] σ0 σ7 := keep_c kp ik7 (by decide) (by decide)
          refine g_putN hF 10 (obC_op hq2) (by decide) nm_424 rfl rfl (rf_op hq2) d_X2_left_84 ?_
          obtain ⟨σ8, eσ8⟩ : ∃ z, z = upC σ7 q2 10 r7 := ⟨_, rfl⟩
          rw [← eσ8]
          have ik8 : Keep [] [] σ7 σ8 := by rw [eσ8]; exact keep_op hq2
          have kp : Keep [(4, 1)] [24] σ0 σ8 := keep_c kp ik8 (by decide) (by decide)
          have iσ8 : Inv σ8 := inv_keep ik8 iσ7
          exact g_vret hF rfl d_X2_left_87 ⟨rfl, rfl, rfl, ⟨iσ8, kp⟩⟩
        · -- not taken at 68
          refine g_bipush hF (v := 29) d_X2_left_71 (by decide) ?_
          refine g_goto hF 78 d_X2_left_73 (by decide) ?_
          refine g_iconst hF (v := (-1)) d_X2_left_78 (by decide) ?_
          refine g_iconst hF (v := 0) d_X2_left_79 (by decide) ?_
          refine g_iconst hF (v := 0) d_X2_left_80 (by decide) ?_
          refine g_callVN (As := [.int 29, .int (-1), .int 0, .int 0]) (rest := [.ref (r q2)]) hF (c_X0_emit a g r σ0 (29 : Int32) ((-1) : Int32) (0 : Int32) (0 : Int32) i0) (Nat.le_of_ble_eq_true rfl) mV_X0_emit nm_1071 (recv_ob obC_4) rfl rfl (Nat.le_of_ble_eq_true rfl) d_X2_left_81 (k_i (fun r9 σ9 ⟨iσ9, ik9⟩ => ?_))
          have kp : Keep [(4, 1)] [24] σ0 σ9 := keep_c kp ik9 (by decide) (by decide)
          refine g_putN hF 10 (obC_op hq2) (by decide) nm_424 rfl rfl (rf_op hq2) d_X2_left_84 ?_
          obtain ⟨σ10, eσ10⟩ : ∃ z, z = upC σ9 q2 10 r9 := ⟨_, rfl⟩
          rw [← eσ10]
          have ik10 : Keep [] [] σ9 σ10 := by rw [eσ10]; exact keep_op hq2
          have kp : Keep [(4, 1)] [24] σ0 σ10 := keep_c kp ik10 (by decide) (by decide)
          have iσ10 : Inv σ10 := inv_keep ik10 iσ9
          exact g_vret hF rfl d_X2_left_87 ⟨rfl, rfl, rfl, ⟨iσ10, kp⟩⟩
      · -- not taken at 51
        refine g_iload_n hF d_X2_left_54 rfl 1 rfl ?_
        refine g_bipush hF (v := 57) d_X2_left_55 (by decide) ?_
        refine g_icmp_ne (yv := 57) hF 87 d_X2_left_57 (by decide) rfl (by decide) (fun c11_57 => ?_) (fun c11_57 => ?_)
        · -- taken at 57
          exact g_vret hF rfl d_X2_left_87 ⟨rfl, rfl, rfl, ⟨i0, kp⟩⟩
        · -- not taken at 57
          refine g_aload_n hF d_X2_left_60 rfl 0 rfl ?_
          refine g_aload_n hF d_X2_left_61 rfl 2 rfl ?_
          refine g_get (v := .ref (r 4)) hF 4 obC_7 (by decide) m_461 rfl d_X2_left_62 ?_
          refine g_iload_n hF d_X2_left_65 rfl 1 rfl ?_
          refine g_bipush hF (v := 58) d_X2_left_66 (by decide) ?_
          refine g_icmp_ne (yv := 58) hF 76 d_X2_left_68 (by decide) rfl (by decide) (fun c12_68 => ?_) (fun c12_68 => ?_)
          · -- taken at 68
            refine g_bipush hF (v := 30) d_X2_left_76 (by decide) ?_
            refine g_iconst hF (v := (-1)) d_X2_left_78 (by decide) ?_
            refine g_iconst hF (v := 0) d_X2_left_79 (by decide) ?_
            refine g_iconst hF (v := 0) d_X2_left_80 (by decide) ?_
            refine g_callVN (As := [.int 30, .int (-1), .int 0, .int 0]) (rest := [.ref (r q2)]) hF (c_X0_emit a g r σ0 (30 : Int32) ((-1) : Int32) (0 : Int32) (0 : Int32) i0) (Nat.le_of_ble_eq_true rfl) mV_X0_emit nm_1071 (recv_ob obC_4) rfl rfl (Nat.le_of_ble_eq_true rfl) d_X2_left_81 (k_i (fun r13 σ13 ⟨iσ13, ik13⟩ => ?_))
            have kp : Keep [(4, 1)] [24] σ0 σ13 := keep_c kp ik13 (by decide) (by decide)
            refine g_putN hF 10 (obC_op hq2) (by decide) nm_424 rfl rfl (rf_op hq2) d_X2_left_84 ?_
            obtain ⟨σ14, eσ14⟩ : ∃ z, z = upC σ13 q2 10 r13 := ⟨_, rfl⟩
            rw [← eσ14]
            have ik14 : Keep [] [] σ13 σ14 := by rw [eσ14]; exact keep_op hq2
            have kp : Keep [(4, 1)] [24] σ0 σ14 := keep_c kp ik14 (by decide) (by decide)
            have iσ14 : Inv σ14 := inv_keep ik14 iσ13
            exact g_vret hF rfl d_X2_left_87 ⟨rfl, rfl, rfl, ⟨iσ14, kp⟩⟩
          · -- not taken at 68
            refine g_bipush hF (v := 29) d_X2_left_71 (by decide) ?_
            refine g_goto hF 78 d_X2_left_73 (by decide) ?_
            refine g_iconst hF (v := (-1)) d_X2_left_78 (by decide) ?_
            refine g_iconst hF (v := 0) d_X2_left_79 (by decide) ?_
            refine g_iconst hF (v := 0) d_X2_left_80 (by decide) ?_
            refine g_callVN (As := [.int 29, .int (-1), .int 0, .int 0]) (rest := [.ref (r q2)]) hF (c_X0_emit a g r σ0 (29 : Int32) ((-1) : Int32) (0 : Int32) (0 : Int32) i0) (Nat.le_of_ble_eq_true rfl) mV_X0_emit nm_1071 (recv_ob obC_4) rfl rfl (Nat.le_of_ble_eq_true rfl) d_X2_left_81 (k_i (fun r15 σ15 ⟨iσ15, ik15⟩ => ?_))
            have kp : Keep [(4, 1)] [24] σ0 σ15 := keep_c kp ik15 (by decide) (by decide)
            refine g_putN hF 10 (obC_op hq2) (by decide) nm_424 rfl rfl (rf_op hq2) d_X2_left_84 ?_
            obtain ⟨σ16, eσ16⟩ : ∃ z, z = upC σ15 q2 10 r15 := ⟨_, rfl⟩
            rw [← eσ16]
            have ik16 : Keep [] [] σ15 σ16 := by rw [eσ16]; exact keep_op hq2
            have kp : Keep [(4, 1)] [24] σ0 σ16 := keep_c kp ik16 (by decide) (by decide)
            have iσ16 : Inv σ16 := inv_keep ik16 iσ15
            exact g_vret hF rfl d_X2_left_87 ⟨rfl, rfl, rfl, ⟨iσ16, kp⟩⟩
    · -- not taken at 39
      refine g_aload_n hF d_X2_left_42 rfl 2 rfl ?_
      refine g_aload_n hF d_X2_left_43 rfl 0 rfl ?_
      refine g_callV (As := [.ref (r q2)]) (rest := []) hF (c_X2_loaded a g r σ0 q2 hq2 i0) (Nat.le_of_ble_eq_true rfl) mV_X2_loaded m_1164 (recv_ob obC_7) rfl rfl (Nat.le_of_ble_eq_true rfl) d_X2_left_44 (k_a (fun q17 σ17 ⟨hq17, iσ17, ik17⟩ => ?_)) (fun _ _ _ h => h.elim)
      have kp : Keep [(4, 1)] [24] σ0 σ17 := keep_c kp ik17 (by decide) (by decide)
      refine g_pop hF d_X2_left_47 rfl ?_
      refine g_iload_n hF d_X2_left_48 rfl 1 rfl ?_
      refine g_bipush hF (v := 58) d_X2_left_49 (by decide) ?_
      refine g_icmp_eq (yv := 58) hF 60 d_X2_left_51 (by decide) rfl (by decide) (fun c18_51 => ?_) (fun c18_51 => ?_)
      · -- taken at 51
        refine g_aload_n hF d_X2_left_60 rfl 0 rfl ?_
        refine g_aload_n hF d_X2_left_61 rfl 2 rfl ?_
        refine g_get (v := .ref (r 4)) hF 4 obC_7 (by decide) m_461 rfl d_X2_left_62 ?_
        refine g_iload_n hF d_X2_left_65 rfl 1 rfl ?_
        refine g_bipush hF (v := 58) d_X2_left_66 (by decide) ?_
        refine g_icmp_ne (yv := 58) hF 76 d_X2_left_68 (by decide) rfl (by decide) (fun c19_68 => ?_) (fun c19_68 => ?_)
        · -- taken at 68
          refine g_bipush hF (v := 30) d_X2_left_76 (by decide) ?_
          refine g_iconst hF (v := (-1)) d_X2_left_78 (by decide) ?_
          refine g_iconst hF (v := 0) d_X2_left_79 (by decide) ?_
          refine g_iconst hF (v := 0) d_X2_left_80 (by decide) ?_
          refine g_callVN (As := [.int 30, .int (-1), .int 0, .int 0]) (rest := [.ref (r q2)]) hF (c_X0_emit a g r σ17 (30 : Int32) ((-1) : Int32) (0 : Int32) (0 : Int32) iσ17) (Nat.le_of_ble_eq_true rfl) mV_X0_emit nm_1071 (recv_ob obC_4) rfl rfl (Nat.le_of_ble_eq_true rfl) d_X2_left_81 (k_i (fun r20 σ20 ⟨iσ20, ik20⟩ => ?_))
          have kp : Keep [(4, 1)] [24] σ0 σ20 := keep_c kp ik20 (by decide) (by decide)
          refine g_putN hF 10 (obC_op hq2) (by decide) nm_424 rfl rfl (rf_op hq2) d_X2_left_84 ?_
          obtain ⟨σ21, eσ21⟩ : ∃ z, z = upC σ20 q2 10 r20 := ⟨_, rfl⟩
          rw [← eσ21]
          have ik21 : Keep [] [] σ20 σ21 := by rw [eσ21]; exact keep_op hq2
          have kp : Keep [(4, 1)] [24] σ0 σ21 := keep_c kp ik21 (by decide) (by decide)
          have iσ21 : Inv σ21 := inv_keep ik21 iσ20
          exact g_vret hF rfl d_X2_left_87 ⟨rfl, rfl, rfl, ⟨iσ21, kp⟩⟩
        · -- not taken at 68
          refine g_bipush hF (v := 29) d_X2_left_71 (by decide) ?_
          refine g_goto hF 78 d_X2_left_73 (by decide) ?_
          refine g_iconst hF (v := (-1)) d_X2_left_78 (by decide) ?_
          refine g_iconst hF (v := 0) d_X2_left_79 (by decide) ?_
          refine g_iconst hF (v := 0) d_X2_left_80 (by decide) ?_
          refine g_callVN (As := [.int 29, .int (-1), .int 0, .int 0]) (rest := [.ref (r q2)]) hF (c_X0_emit a g r σ17 (29 : Int32) ((-1) : Int32) (0 : Int32) (0 : Int32) iσ17) (Nat.le_of_ble_eq_true rfl) mV_X0_emit nm_1071 (recv_ob obC_4) rfl rfl (Nat.le_of_ble_eq_true rfl) d_X2_left_81 (k_i (fun r22 σ22 ⟨iσ22, ik22⟩ => ?_))
          have kp : Keep [(4, 1)] [24] σ0 σ22 := keep_c kp ik22 (by decide) (by decide)
          refine g_putN hF 10 (obC_op hq2) (by decide) nm_424 rfl rfl (rf_op hq2) d_X2_left_84 ?_
          obtain ⟨σ23, eσ23⟩ : ∃ z, z = upC σ22 q2 10 r22 := ⟨_, rfl⟩
          rw [← eσ23]
          have ik23 : Keep [] [] σ22 σ23 := by rw [eσ23]; exact keep_op hq2
          have kp : Keep [(4, 1)] [24] σ0 σ23 := keep_c kp ik23 (by decide) (by decide)
          have iσ23 : Inv σ23 := inv_keep ik23 iσ22
          exact g_vret hF rfl d_X2_left_87 ⟨rfl, rfl, rfl, ⟨iσ23, kp⟩⟩
      · -- not taken at 51
        refine g_iload_n hF d_X2_left_54 rfl 1 rfl ?_
        refine g_bipush hF (v := 57) d_X2_left_55 (by decide) ?_
        refine g_icmp_ne (yv := 57) hF 87 d_X2_left_57 (by decide) rfl (by decide) (fun c24_57 => ?_) (fun c24_57 => ?_)
        · -- taken at 57
          exact g_vret hF rfl d_X2_left_87 ⟨rfl, rfl, rfl, ⟨iσ17, kp⟩⟩
        · -- not taken at 57
          refine g_aload_n hF d_X2_left_60 rfl 0 rfl ?_
          refine g_aload_n hF d_X2_left_61 rfl 2 rfl ?_
          refine g_get (v := .ref (r 4)) hF 4 obC_7 (by decide) m_461 rfl d_X2_left_62 ?_
          refine g_iload_n hF d_X2_left_65 rfl 1 rfl ?_
          refine g_bipush hF (v := 58) d_X2_left_66 (by decide) ?_
          refine g_icmp_ne (yv := 58) hF 76 d_X2_left_68 (by decide) rfl (by decide) (fun c25_68 => ?_) (fun c25_68 => ?_)
          · -- taken at 68
            refine g_bipush hF (v := 30) d_X2_left_76 (by decide) ?_
            refine g_iconst hF (v := (-1)) d_X2_left_78 (by decide) ?_
            refine g_iconst hF (v := 0) d_X2_left_79 (by decide) ?_
            refine g_iconst hF (v := 0) d_X2_left_80 (by decide) ?_
            refine g_callVN (As := [.int 30, .int (-1), .int 0, .int 0]) (rest := [.ref (r q2)]) hF (c_X0_emit a g r σ17 (30 : Int32) ((-1) : Int32) (0 : Int32) (0 : Int32) iσ17) (Nat.le_of_ble_eq_true rfl) mV_X0_emit nm_1071 (recv_ob obC_4) rfl rfl (Nat.le_of_ble_eq_true rfl) d_X2_left_81 (k_i (fun r26 σ26 ⟨iσ26, ik26⟩ => ?_))
            have kp : Keep [(4, 1)] [24] σ0 σ26 := keep_c kp ik26 (by decide) (by decide)
            refine g_putN hF 10 (obC_op hq2) (by decide) nm_424 rfl rfl (rf_op hq2) d_X2_left_84 ?_
            obtain ⟨σ27, eσ27⟩ : ∃ z, z = upC σ26 q2 10 r26 := ⟨_, rfl⟩
            rw [← eσ27]
            have ik27 : Keep [] [] σ26 σ27 := by rw [eσ27]; exact keep_op hq2
            have kp : Keep [(4, 1)] [24] σ0 σ27 := keep_c kp ik27 (by decide) (by decide)
            have iσ27 : Inv σ27 := inv_keep ik27 iσ26
            exact g_vret hF rfl d_X2_left_87 ⟨rfl, rfl, rfl, ⟨iσ27, kp⟩⟩
          · -- not taken at 68
            refine g_bipush hF (v := 29) d_X2_left_71 (by decide) ?_
            refine g_goto hF 78 d_X2_left_73 (by decide) ?_
            refine g_iconst hF (v := (-1)) d_X2_left_78 (by decide) ?_
            refine g_iconst hF (v := 0) d_X2_left_79 (by decide) ?_
            refine g_iconst hF (v := 0) d_X2_left_80 (by decide) ?_
            refine g_callVN (As := [.int 29, .int (-1), .int 0, .int 0]) (rest := [.ref (r q2)]) hF (c_X0_emit a g r σ17 (29 : Int32) ((-1) : Int32) (0 : Int32) (0 : Int32) iσ17) (Nat.le_of_ble_eq_true rfl) mV_X0_emit nm_1071 (recv_ob obC_4) rfl rfl (Nat.le_of_ble_eq_true rfl) d_X2_left_81 (k_i (fun r28 σ28 ⟨iσ28, ik28⟩ => ?_))
            have kp : Keep [(4, 1)] [24] σ0 σ28 := keep_c kp ik28 (by decide) (by decide)
            refine g_putN hF 10 (obC_op hq2) (by decide) nm_424 rfl rfl (rf_op hq2) d_X2_left_84 ?_
            obtain ⟨σ29, eσ29⟩ : ∃ z, z = upC σ28 q2 10 r28 := ⟨_, rfl⟩
            rw [← eσ29]
            have ik29 : Keep [] [] σ28 σ29 := by rw [eσ29]; exact keep_op hq2
            have kp : Keep [(4, 1)] [24] σ0 σ29 := keep_c kp ik29 (by decide) (by decide)
            have iσ29 : Inv σ29 := inv_keep ik29 iσ28
            exact g_vret hF rfl d_X2_left_87 ⟨rfl, rfl, rfl, ⟨iσ29, kp⟩⟩
  · -- not taken at 14
    refine g_iload_n hF d_X2_left_17 rfl 1 rfl ?_
    refine g_bipush hF (v := 40) d_X2_left_18 (by decide) ?_
    refine g_icmp_gt (yv := 40) hF 36 d_X2_left_20 (by decide) rfl (by decide) (fun c30_20 => ?_) (fun c30_20 => ?_)
    · -- taken at 20
      refine g_iload_n hF d_X2_left_36 rfl 1 rfl ?_
      refine g_bipush hF (v := 30) d_X2_left_37 (by decide) ?_
      refine g_icmp_eq (yv := 30) hF 48 d_X2_left_39 (by decide) rfl (by decide) (fun c31_39 => ?_) (fun c31_39 => ?_)
      · -- taken at 39
        refine g_iload_n hF d_X2_left_48 rfl 1 rfl ?_
        refine g_bipush hF (v := 58) d_X2_left_49 (by decide) ?_
        refine g_icmp_eq (yv := 58) hF 60 d_X2_left_51 (by decide) rfl (by decide) (fun c32_51 => ?_) (fun c32_51 => ?_)
        · -- taken at 51
          refine g_aload_n hF d_X2_left_60 rfl 0 rfl ?_
          refine g_aload_n hF d_X2_left_61 rfl 2 rfl ?_
          refine g_get (v := .ref (r 4)) hF 4 obC_7 (by decide) m_461 rfl d_X2_left_62 ?_
          refine g_iload_n hF d_X2_left_65 rfl 1 rfl ?_
          refine g_bipush hF (v := 58) d_X2_left_66 (by decide) ?_
          refine g_icmp_ne (yv := 58) hF 76 d_X2_left_68 (by decide) rfl (by decide) (fun c33_68 => ?_) (fun c33_68 => ?_)
          · -- taken at 68
            refine g_bipush hF (v := 30) d_X2_left_76 (by decide) ?_
            refine g_iconst hF (v := (-1)) d_X2_left_78 (by decide) ?_
            refine g_iconst hF (v := 0) d_X2_left_79 (by decide) ?_
            refine g_iconst hF (v := 0) d_X2_left_80 (by decide) ?_
            refine g_callVN (As := [.int 30, .int (-1), .int 0, .int 0]) (rest := [.ref (r q2)]) hF (c_X0_emit a g r σ0 (30 : Int32) ((-1) : Int32) (0 : Int32) (0 : Int32) i0) (Nat.le_of_ble_eq_true rfl) mV_X0_emit nm_1071 (recv_ob obC_4) rfl rfl (Nat.le_of_ble_eq_true rfl) d_X2_left_81 (k_i (fun r34 σ34 ⟨iσ34, ik34⟩ => ?_))
            have kp : Keep [(4, 1)] [24] σ0 σ34 := keep_c kp ik34 (by decide) (by decide)
            refine g_putN hF 10 (obC_op hq2) (by decide) nm_424 rfl rfl (rf_op hq2) d_X2_left_84 ?_
            obtain ⟨σ35, eσ35⟩ : ∃ z, z = upC σ34 q2 10 r34 := ⟨_, rfl⟩
            rw [← eσ35]
            have ik35 : Keep [] [] σ34 σ35 := by rw [eσ35]; exact keep_op hq2
            have kp : Keep [(4, 1)] [24] σ0 σ35 := keep_c kp ik35 (by decide) (by decide)
            have iσ35 : Inv σ35 := inv_keep ik35 iσ34
            exact g_vret hF rfl d_X2_left_87 ⟨rfl, rfl, rfl, ⟨iσ35, kp⟩⟩
          · -- not taken at 68
            refine g_bipush hF (v := 29) d_X2_left_71 (by decide) ?_
            refine g_goto hF 78 d_X2_left_73 (by decide) ?_
            refine g_iconst hF (v := (-1)) d_X2_left_78 (by decide) ?_
            refine g_iconst hF (v := 0) d_X2_left_79 (by decide) ?_
            refine g_iconst hF (v := 0) d_X2_left_80 (by decide) ?_
            refine g_callVN (As := [.int 29, .int (-1), .int 0, .int 0]) (rest := [.ref (r q2)]) hF (c_X0_emit a g r σ0 (29 : Int32) ((-1) : Int32) (0 : Int32) (0 : Int32) i0) (Nat.le_of_ble_eq_true rfl) mV_X0_emit nm_1071 (recv_ob obC_4) rfl rfl (Nat.le_of_ble_eq_true rfl) d_X2_left_81 (k_i (fun r36 σ36 ⟨iσ36, ik36⟩ => ?_))
            have kp : Keep [(4, 1)] [24] σ0 σ36 := keep_c kp ik36 (by decide) (by decide)
            refine g_putN hF 10 (obC_op hq2) (by decide) nm_424 rfl rfl (rf_op hq2) d_X2_left_84 ?_
            obtain ⟨σ37, eσ37⟩ : ∃ z, z = upC σ36 q2 10 r36 := ⟨_, rfl⟩
            rw [← eσ37]
            have ik37 : Keep [] [] σ36 σ37 := by rw [eσ37]; exact keep_op hq2
            have kp : Keep [(4, 1)] [24] σ0 σ37 := keep_c kp ik37 (by decide) (by decide)
            have iσ37 : Inv σ37 := inv_keep ik37 iσ36
            exact g_vret hF rfl d_X2_left_87 ⟨rfl, rfl, rfl, ⟨iσ37, kp⟩⟩
        · -- not taken at 51
          refine g_iload_n hF d_X2_left_54 rfl 1 rfl ?_
          refine g_bipush hF (v := 57) d_X2_left_55 (by decide) ?_
          refine g_icmp_ne (yv := 57) hF 87 d_X2_left_57 (by decide) rfl (by decide) (fun c38_57 => ?_) (fun c38_57 => ?_)
          · -- taken at 57
            exact g_vret hF rfl d_X2_left_87 ⟨rfl, rfl, rfl, ⟨i0, kp⟩⟩
          · -- not taken at 57
            refine g_aload_n hF d_X2_left_60 rfl 0 rfl ?_
            refine g_aload_n hF d_X2_left_61 rfl 2 rfl ?_
            refine g_get (v := .ref (r 4)) hF 4 obC_7 (by decide) m_461 rfl d_X2_left_62 ?_
            refine g_iload_n hF d_X2_left_65 rfl 1 rfl ?_
            refine g_bipush hF (v := 58) d_X2_left_66 (by decide) ?_
            refine g_icmp_ne (yv := 58) hF 76 d_X2_left_68 (by decide) rfl (by decide) (fun c39_68 => ?_) (fun c39_68 => ?_)
            · -- taken at 68
              refine g_bipush hF (v := 30) d_X2_left_76 (by decide) ?_
              refine g_iconst hF (v := (-1)) d_X2_left_78 (by decide) ?_
              refine g_iconst hF (v := 0) d_X2_left_79 (by decide) ?_
              refine g_iconst hF (v := 0) d_X2_left_80 (by decide) ?_
              refine g_callVN (As := [.int 30, .int (-1), .int 0, .int 0]) (rest := [.ref (r q2)]) hF (c_X0_emit a g r σ0 (30 : Int32) ((-1) : Int32) (0 : Int32) (0 : Int32) i0) (Nat.le_of_ble_eq_true rfl) mV_X0_emit nm_1071 (recv_ob obC_4) rfl rfl (Nat.le_of_ble_eq_true rfl) d_X2_left_81 (k_i (fun r40 σ40 ⟨iσ40, ik40⟩ => ?_))
              have kp : Keep [(4, 1)] [24] σ0 σ40 := keep_c kp ik40 (by decide) (by decide)
              refine g_putN hF 10 (obC_op hq2) (by decide) nm_424 rfl rfl (rf_op hq2) d_X2_left_84 ?_
              obtain ⟨σ41, eσ41⟩ : ∃ z, z = upC σ40 q2 10 r40 := ⟨_, rfl⟩
              rw [← eσ41]
              have ik41 : Keep [] [] σ40 σ41 := by rw [eσ41]; exact keep_op hq2
              have kp : Keep [(4, 1)] [24] σ0 σ41 := keep_c kp ik41 (by decide) (by decide)
              have iσ41 : Inv σ41 := inv_keep ik41 iσ40
              exact g_vret hF rfl d_X2_left_87 ⟨rfl, rfl, rfl, ⟨iσ41, kp⟩⟩
            · -- not taken at 68
              refine g_bipush hF (v := 29) d_X2_left_71 (by decide) ?_
              refine g_goto hF 78 d_X2_left_73 (by decide) ?_
              refine g_iconst hF (v := (-1)) d_X2_left_78 (by decide) ?_
              refine g_iconst hF (v := 0) d_X2_left_79 (by decide) ?_
              refine g_iconst hF (v := 0) d_X2_left_80 (by decide) ?_
              refine g_callVN (As := [.int 29, .int (-1), .int 0, .int 0]) (rest := [.ref (r q2)]) hF (c_X0_emit a g r σ0 (29 : Int32) ((-1) : Int32) (0 : Int32) (0 : Int32) i0) (Nat.le_of_ble_eq_true rfl) mV_X0_emit nm_1071 (recv_ob obC_4) rfl rfl (Nat.le_of_ble_eq_true rfl) d_X2_left_81 (k_i (fun r42 σ42 ⟨iσ42, ik42⟩ => ?_))
              have kp : Keep [(4, 1)] [24] σ0 σ42 := keep_c kp ik42 (by decide) (by decide)
              refine g_putN hF 10 (obC_op hq2) (by decide) nm_424 rfl rfl (rf_op hq2) d_X2_left_84 ?_
              obtain ⟨σ43, eσ43⟩ : ∃ z, z = upC σ42 q2 10 r42 := ⟨_, rfl⟩
              rw [← eσ43]
              have ik43 : Keep [] [] σ42 σ43 := by rw [eσ43]; exact keep_op hq2
              have kp : Keep [(4, 1)] [24] σ0 σ43 := keep_c kp ik43 (by decide) (by decide)
              have iσ43 : Inv σ43 := inv_keep ik43 iσ42
              exact g_vret hF rfl d_X2_left_87 ⟨rfl, rfl, rfl, ⟨iσ43, kp⟩⟩
      · -- not taken at 39
        refine g_aload_n hF d_X2_left_42 rfl 2 rfl ?_
        refine g_aload_n hF d_X2_left_43 rfl 0 rfl ?_
        refine g_callV (As := [.ref (r q2)]) (rest := []) hF (c_X2_loaded a g r σ0 q2 hq2 i0) (Nat.le_of_ble_eq_true rfl) mV_X2_loaded m_1164 (recv_ob obC_7) rfl rfl (Nat.le_of_ble_eq_true rfl) d_X2_left_44 (k_a (fun q44 σ44 ⟨hq44, iσ44, ik44⟩ => ?_)) (fun _ _ _ h => h.elim)
        have kp : Keep [(4, 1)] [24] σ0 σ44 := keep_c kp ik44 (by decide) (by decide)
        refine g_pop hF d_X2_left_47 rfl ?_
        refine g_iload_n hF d_X2_left_48 rfl 1 rfl ?_
        refine g_bipush hF (v := 58) d_X2_left_49 (by decide) ?_
        refine g_icmp_eq (yv := 58) hF 60 d_X2_left_51 (by decide) rfl (by decide) (fun c45_51 => ?_) (fun c45_51 => ?_)
        · -- taken at 51
          refine g_aload_n hF d_X2_left_60 rfl 0 rfl ?_
          refine g_aload_n hF d_X2_left_61 rfl 2 rfl ?_
          refine g_get (v := .ref (r 4)) hF 4 obC_7 (by decide) m_461 rfl d_X2_left_62 ?_
          refine g_iload_n hF d_X2_left_65 rfl 1 rfl ?_
          refine g_bipush hF (v := 58) d_X2_left_66 (by decide) ?_
          refine g_icmp_ne (yv := 58) hF 76 d_X2_left_68 (by decide) rfl (by decide) (fun c46_68 => ?_) (fun c46_68 => ?_)
          · -- taken at 68
            refine g_bipush hF (v := 30) d_X2_left_76 (by decide) ?_
            refine g_iconst hF (v := (-1)) d_X2_left_78 (by decide) ?_
            refine g_iconst hF (v := 0) d_X2_left_79 (by decide) ?_
            refine g_iconst hF (v := 0) d_X2_left_80 (by decide) ?_
            refine g_callVN (As := [.int 30, .int (-1), .int 0, .int 0]) (rest := [.ref (r q2)]) hF (c_X0_emit a g r σ44 (30 : Int32) ((-1) : Int32) (0 : Int32) (0 : Int32) iσ44) (Nat.le_of_ble_eq_true rfl) mV_X0_emit nm_1071 (recv_ob obC_4) rfl rfl (Nat.le_of_ble_eq_true rfl) d_X2_left_81 (k_i (fun r47 σ47 ⟨iσ47, ik47⟩ => ?_))
            have kp : Keep [(4, 1)] [24] σ0 σ47 := keep_c kp ik47 (by decide) (by decide)
            refine g_putN hF 10 (obC_op hq2) (by decide) nm_424 rfl rfl (rf_op hq2) d_X2_left_84 ?_
            obtain ⟨σ48, eσ48⟩ : ∃ z, z = upC σ47 q2 10 r47 := ⟨_, rfl⟩
            rw [← eσ48]
            have ik48 : Keep [] [] σ47 σ48 := by rw [eσ48]; exact keep_op hq2
            have kp : Keep [(4, 1)] [24] σ0 σ48 := keep_c kp ik48 (by decide) (by decide)
            have iσ48 : Inv σ48 := inv_keep ik48 iσ47
            exact g_vret hF rfl d_X2_left_87 ⟨rfl, rfl, rfl, ⟨iσ48, kp⟩⟩
          · -- not taken at 68
            refine g_bipush hF (v := 29) d_X2_left_71 (by decide) ?_
            refine g_goto hF 78 d_X2_left_73 (by decide) ?_
            refine g_iconst hF (v := (-1)) d_X2_left_78 (by decide) ?_
            refine g_iconst hF (v := 0) d_X2_left_79 (by decide) ?_
            refine g_iconst hF (v := 0) d_X2_left_80 (by decide) ?_
            refine g_callVN (As := [.int 29, .int (-1), .int 0, .int 0]) (rest := [.ref (r q2)]) hF (c_X0_emit a g r σ44 (29 : Int32) ((-1) : Int32) (0 : Int32) (0 : Int32) iσ44) (Nat.le_of_ble_eq_true rfl) mV_X0_emit nm_1071 (recv_ob obC_4) rfl rfl (Nat.le_of_ble_eq_true rfl) d_X2_left_81 (k_i (fun r49 σ49 ⟨iσ49, ik49⟩ => ?_))
            have kp : Keep [(4, 1)] [24] σ0 σ49 := keep_c kp ik49 (by decide) (by decide)
            refine g_putN hF 10 (obC_op hq2) (by decide) nm_424 rfl rfl (rf_op hq2) d_X2_left_84 ?_
            obtain ⟨σ50, eσ50⟩ : ∃ z, z = upC σ49 q2 10 r49 := ⟨_, rfl⟩
            rw [← eσ50]
            have ik50 : Keep [] [] σ49 σ50 := by rw [eσ50]; exact keep_op hq2
            have kp : Keep [(4, 1)] [24] σ0 σ50 := keep_c kp ik50 (by decide) (by decide)
            have iσ50 : Inv σ50 := inv_keep ik50 iσ49
            exact g_vret hF rfl d_X2_left_87 ⟨rfl, rfl, rfl, ⟨iσ50, kp⟩⟩
        · -- not taken at 51
          refine g_iload_n hF d_X2_left_54 rfl 1 rfl ?_
          refine g_bipush hF (v := 57) d_X2_left_55 (by decide) ?_
          refine g_icmp_ne (yv := 57) hF 87 d_X2_left_57 (by decide) rfl (by decide) (fun c51_57 => ?_) (fun c51_57 => ?_)
          · -- taken at 57
            exact g_vret hF rfl d_X2_left_87 ⟨rfl, rfl, rfl, ⟨iσ44, kp⟩⟩
          · -- not taken at 57
            refine g_aload_n hF d_X2_left_60 rfl 0 rfl ?_
            refine g_aload_n hF d_X2_left_61 rfl 2 rfl ?_
            refine g_get (v := .ref (r 4)) hF 4 obC_7 (by decide) m_461 rfl d_X2_left_62 ?_
            refine g_iload_n hF d_X2_left_65 rfl 1 rfl ?_
            refine g_bipush hF (v := 58) d_X2_left_66 (by decide) ?_
            refine g_icmp_ne (yv := 58) hF 76 d_X2_left_68 (by decide) rfl (by decide) (fun c52_68 => ?_) (fun c52_68 => ?_)
            · -- taken at 68
              refine g_bipush hF (v := 30) d_X2_left_76 (by decide) ?_
              refine g_iconst hF (v := (-1)) d_X2_left_78 (by decide) ?_
              refine g_iconst hF (v := 0) d_X2_left_79 (by decide) ?_
              refine g_iconst hF (v := 0) d_X2_left_80 (by decide) ?_
              refine g_callVN (As := [.int 30, .int (-1), .int 0, .int 0]) (rest := [.ref (r q2)]) hF (c_X0_emit a g r σ44 (30 : Int32) ((-1) : Int32) (0 : Int32) (0 : Int32) iσ44) (Nat.le_of_ble_eq_true rfl) mV_X0_emit nm_1071 (recv_ob obC_4) rfl rfl (Nat.le_of_ble_eq_true rfl) d_X2_left_81 (k_i (fun r53 σ53 ⟨iσ53, ik53⟩ => ?_))
              have kp : Keep [(4, 1)] [24] σ0 σ53 := keep_c kp ik53 (by decide) (by decide)
              refine g_putN hF 10 (obC_op hq2) (by decide) nm_424 rfl rfl (rf_op hq2) d_X2_left_84 ?_
              obtain ⟨σ54, eσ54⟩ : ∃ z, z = upC σ53 q2 10 r53 := ⟨_, rfl⟩
              rw [← eσ54]
              have ik54 : Keep [] [] σ53 σ54 := by rw [eσ54]; exact keep_op hq2
              have kp : Keep [(4, 1)] [24] σ0 σ54 := keep_c kp ik54 (by decide) (by decide)
              have iσ54 : Inv σ54 := inv_keep ik54 iσ53
              exact g_vret hF rfl d_X2_left_87 ⟨rfl, rfl, rfl, ⟨iσ54, kp⟩⟩
            · -- not taken at 68
              refine g_bipush hF (v := 29) d_X2_left_71 (by decide) ?_
              refine g_goto hF 78 d_X2_left_73 (by decide) ?_
              refine g_iconst hF (v := (-1)) d_X2_left_78 (by decide) ?_
              refine g_iconst hF (v := 0) d_X2_left_79 (by decide) ?_
              refine g_iconst hF (v := 0) d_X2_left_80 (by decide) ?_
              refine g_callVN (As := [.int 29, .int (-1), .int 0, .int 0]) (rest := [.ref (r q2)]) hF (c_X0_emit a g r σ44 (29 : Int32) ((-1) : Int32) (0 : Int32) (0 : Int32) iσ44) (Nat.le_of_ble_eq_true rfl) mV_X0_emit nm_1071 (recv_ob obC_4) rfl rfl (Nat.le_of_ble_eq_true rfl) d_X2_left_81 (k_i (fun r55 σ55 ⟨iσ55, ik55⟩ => ?_))
              have kp : Keep [(4, 1)] [24] σ0 σ55 := keep_c kp ik55 (by decide) (by decide)
              refine g_putN hF 10 (obC_op hq2) (by decide) nm_424 rfl rfl (rf_op hq2) d_X2_left_84 ?_
              obtain ⟨σ56, eσ56⟩ : ∃ z, z = upC σ55 q2 10 r55 := ⟨_, rfl⟩
              rw [← eσ56]
              have ik56 : Keep [] [] σ55 σ56 := by rw [eσ56]; exact keep_op hq2
              have kp : Keep [(4, 1)] [24] σ0 σ56 := keep_c kp ik56 (by decide) (by decide)
              have iσ56 : Inv σ56 := inv_keep ik56 iσ55
              exact g_vret hF rfl d_X2_left_87 ⟨rfl, rfl, rfl, ⟨iσ56, kp⟩⟩
    · -- not taken at 20
      refine g_aload_n hF d_X2_left_23 rfl 2 rfl ?_
      refine g_aload_n hF d_X2_left_24 rfl 0 rfl ?_
      refine g_aload_n hF d_X2_left_25 rfl 2 rfl ?_
      refine g_iload_n hF d_X2_left_26 rfl 3 rfl ?_
      refine g_callV (As := [.int a1]) (rest := [.ref (r q2), .ref (r 7)]) hF (c_X2_lineOf a g r σ0 a1 i0) (Nat.le_of_ble_eq_true rfl) mV_X2_lineOf m_1182 (recv_ob obC_7) rfl rfl (Nat.le_of_ble_eq_true rfl) d_X2_left_27 (k_ro (fun r57 => ?_)) (fun _ _ _ h => h.elim)
      refine g_callV (As := [.ref (r q2), .int r57]) (rest := []) hF (c_X2_fetch a g r σ0 r57 q2 hq2 i0) (Nat.le_of_ble_eq_true rfl) mV_X2_fetch m_1198 (recv_ob obC_7) rfl rfl (Nat.le_of_ble_eq_true rfl) d_X2_left_30 (k_v (fun σ58 ⟨iσ58, ik58⟩ => ?_)) (fun _ _ _ h => h.elim)
      have kp : Keep [(4, 1)] [24] σ0 σ58 := keep_c kp ik58 (by decide) (by decide)
      refine g_goto hF 48 d_X2_left_33 (by decide) ?_
      refine g_iload_n hF d_X2_left_48 rfl 1 rfl ?_
      refine g_bipush hF (v := 58) d_X2_left_49 (by decide) ?_
      refine g_icmp_eq (yv := 58) hF 60 d_X2_left_51 (by decide) rfl (by decide) (fun c59_51 => ?_) (fun c59_51 => ?_)
      · -- taken at 51
        refine g_aload_n hF d_X2_left_60 rfl 0 rfl ?_
        refine g_aload_n hF d_X2_left_61 rfl 2 rfl ?_
        refine g_get (v := .ref (r 4)) hF 4 obC_7 (by decide) m_461 rfl d_X2_left_62 ?_
        refine g_iload_n hF d_X2_left_65 rfl 1 rfl ?_
        refine g_bipush hF (v := 58) d_X2_left_66 (by decide) ?_
        refine g_icmp_ne (yv := 58) hF 76 d_X2_left_68 (by decide) rfl (by decide) (fun c60_68 => ?_) (fun c60_68 => ?_)
        · -- taken at 68
          refine g_bipush hF (v := 30) d_X2_left_76 (by decide) ?_
          refine g_iconst hF (v := (-1)) d_X2_left_78 (by decide) ?_
          refine g_iconst hF (v := 0) d_X2_left_79 (by decide) ?_
          refine g_iconst hF (v := 0) d_X2_left_80 (by decide) ?_
          refine g_callVN (As := [.int 30, .int (-1), .int 0, .int 0]) (rest := [.ref (r q2)]) hF (c_X0_emit a g r σ58 (30 : Int32) ((-1) : Int32) (0 : Int32) (0 : Int32) iσ58) (Nat.le_of_ble_eq_true rfl) mV_X0_emit nm_1071 (recv_ob obC_4) rfl rfl (Nat.le_of_ble_eq_true rfl) d_X2_left_81 (k_i (fun r61 σ61 ⟨iσ61, ik61⟩ => ?_))
          have kp : Keep [(4, 1)] [24] σ0 σ61 := keep_c kp ik61 (by decide) (by decide)
          refine g_putN hF 10 (obC_op hq2) (by decide) nm_424 rfl rfl (rf_op hq2) d_X2_left_84 ?_
          obtain ⟨σ62, eσ62⟩ : ∃ z, z = upC σ61 q2 10 r61 := ⟨_, rfl⟩
          rw [← eσ62]
          have ik62 : Keep [] [] σ61 σ62 := by rw [eσ62]; exact keep_op hq2
          have kp : Keep [(4, 1)] [24] σ0 σ62 := keep_c kp ik62 (by decide) (by decide)
          have iσ62 : Inv σ62 := inv_keep ik62 iσ61
          exact g_vret hF rfl d_X2_left_87 ⟨rfl, rfl, rfl, ⟨iσ62, kp⟩⟩
        · -- not taken at 68
          refine g_bipush hF (v := 29) d_X2_left_71 (by decide) ?_
          refine g_goto hF 78 d_X2_left_73 (by decide) ?_
          refine g_iconst hF (v := (-1)) d_X2_left_78 (by decide) ?_
          refine g_iconst hF (v := 0) d_X2_left_79 (by decide) ?_
          refine g_iconst hF (v := 0) d_X2_left_80 (by decide) ?_
          refine g_callVN (As := [.int 29, .int (-1), .int 0, .int 0]) (rest := [.ref (r q2)]) hF (c_X0_emit a g r σ58 (29 : Int32) ((-1) : Int32) (0 : Int32) (0 : Int32) iσ58) (Nat.le_of_ble_eq_true rfl) mV_X0_emit nm_1071 (recv_ob obC_4) rfl rfl (Nat.le_of_ble_eq_true rfl) d_X2_left_81 (k_i (fun r63 σ63 ⟨iσ63, ik63⟩ => ?_))
          have kp : Keep [(4, 1)] [24] σ0 σ63 := keep_c kp ik63 (by decide) (by decide)
          refine g_putN hF 10 (obC_op hq2) (by decide) nm_424 rfl rfl (rf_op hq2) d_X2_left_84 ?_
          obtain ⟨σ64, eσ64⟩ : ∃ z, z = upC σ63 q2 10 r63 := ⟨_, rfl⟩
          rw [← eσ64]
          have ik64 : Keep [] [] σ63 σ64 := by rw [eσ64]; exact keep_op hq2
          have kp : Keep [(4, 1)] [24] σ0 σ64 := keep_c kp ik64 (by decide) (by decide)
          have iσ64 : Inv σ64 := inv_keep ik64 iσ63
          exact g_vret hF rfl d_X2_left_87 ⟨rfl, rfl, rfl, ⟨iσ64, kp⟩⟩
      · -- not taken at 51
        refine g_iload_n hF d_X2_left_54 rfl 1 rfl ?_
        refine g_bipush hF (v := 57) d_X2_left_55 (by decide) ?_
        refine g_icmp_ne (yv := 57) hF 87 d_X2_left_57 (by decide) rfl (by decide) (fun c65_57 => ?_) (fun c65_57 => ?_)
        · -- taken at 57
          exact g_vret hF rfl d_X2_left_87 ⟨rfl, rfl, rfl, ⟨iσ58, kp⟩⟩
        · -- not taken at 57
          refine g_aload_n hF d_X2_left_60 rfl 0 rfl ?_
          refine g_aload_n hF d_X2_left_61 rfl 2 rfl ?_
          refine g_get (v := .ref (r 4)) hF 4 obC_7 (by decide) m_461 rfl d_X2_left_62 ?_
          refine g_iload_n hF d_X2_left_65 rfl 1 rfl ?_
          refine g_bipush hF (v := 58) d_X2_left_66 (by decide) ?_
          refine g_icmp_ne (yv := 58) hF 76 d_X2_left_68 (by decide) rfl (by decide) (fun c66_68 => ?_) (fun c66_68 => ?_)
          · -- taken at 68
            refine g_bipush hF (v := 30) d_X2_left_76 (by decide) ?_
            refine g_iconst hF (v := (-1)) d_X2_left_78 (by decide) ?_
            refine g_iconst hF (v := 0) d_X2_left_79 (by decide) ?_
            refine g_iconst hF (v := 0) d_X2_left_80 (by decide) ?_
            refine g_callVN (As := [.int 30, .int (-1), .int 0, .int 0]) (rest := [.ref (r q2)]) hF (c_X0_emit a g r σ58 (30 : Int32) ((-1) : Int32) (0 : Int32) (0 : Int32) iσ58) (Nat.le_of_ble_eq_true rfl) mV_X0_emit nm_1071 (recv_ob obC_4) rfl rfl (Nat.le_of_ble_eq_true rfl) d_X2_left_81 (k_i (fun r67 σ67 ⟨iσ67, ik67⟩ => ?_))
            have kp : Keep [(4, 1)] [24] σ0 σ67 := keep_c kp ik67 (by decide) (by decide)
            refine g_putN hF 10 (obC_op hq2) (by decide) nm_424 rfl rfl (rf_op hq2) d_X2_left_84 ?_
            obtain ⟨σ68, eσ68⟩ : ∃ z, z = upC σ67 q2 10 r67 := ⟨_, rfl⟩
            rw [← eσ68]
            have ik68 : Keep [] [] σ67 σ68 := by rw [eσ68]; exact keep_op hq2
            have kp : Keep [(4, 1)] [24] σ0 σ68 := keep_c kp ik68 (by decide) (by decide)
            have iσ68 : Inv σ68 := inv_keep ik68 iσ67
            exact g_vret hF rfl d_X2_left_87 ⟨rfl, rfl, rfl, ⟨iσ68, kp⟩⟩
          · -- not taken at 68
            refine g_bipush hF (v := 29) d_X2_left_71 (by decide) ?_
            refine g_goto hF 78 d_X2_left_73 (by decide) ?_
            refine g_iconst hF (v := (-1)) d_X2_left_78 (by decide) ?_
            refine g_iconst hF (v := 0) d_X2_left_79 (by decide) ?_
            refine g_iconst hF (v := 0) d_X2_left_80 (by decide) ?_
            refine g_callVN (As := [.int 29, .int (-1), .int 0, .int 0]) (rest := [.ref (r q2)]) hF (c_X0_emit a g r σ58 (29 : Int32) ((-1) : Int32) (0 : Int32) (0 : Int32) iσ58) (Nat.le_of_ble_eq_true rfl) mV_X0_emit nm_1071 (recv_ob obC_4) rfl rfl (Nat.le_of_ble_eq_true rfl) d_X2_left_81 (k_i (fun r69 σ69 ⟨iσ69, ik69⟩ => ?_))
            have kp : Keep [(4, 1)] [24] σ0 σ69 := keep_c kp ik69 (by decide) (by decide)
            refine g_putN hF 10 (obC_op hq2) (by decide) nm_424 rfl rfl (rf_op hq2) d_X2_left_84 ?_
            obtain ⟨σ70, eσ70⟩ : ∃ z, z = upC σ69 q2 10 r69 := ⟨_, rfl⟩
            rw [← eσ70]
            have ik70 : Keep [] [] σ69 σ70 := by rw [eσ70]; exact keep_op hq2
            have kp : Keep [(4, 1)] [24] σ0 σ70 := keep_c kp ik70 (by decide) (by decide)
            have iσ70 : Inv σ70 := inv_keep ik70 iσ69
            exact g_vret hF rfl d_X2_left_87 ⟨rfl, rfl, rfl, ⟨iσ70, kp⟩⟩
set_option maxHeartbeats 4000000 in
set_option maxRecDepth 100000 in
theorem c_X2_cast (a : Nat → Nat) (g : Nat → Nat → Int32) (r : Nat → Nat) (σ0 : St) (a1 : Int32) (a2 : Int32) (i0 : Inv σ0) (l : Launch) (D : va_G) (cy : Nat → ClassId) : Ct l D cy SC r (EC a g) y_X2_cast (Cond.code y_X2_cast b_X2_cast 4 none) 2 [.ref (r 7), .int a1, .int a2] σ0 Z0 [] (QV (fun σ9 => (Inv σ9 ∧ Keep [(4, 1), (6, 3), (6, 4)] [24] σ0 σ9))) QF := by
  refine Ct_of (EC_ok a g) (by decide) (Nat.le_of_ble_eq_true rfl) (by decide) (fun X hnn hF => ?_)
  show G SC r X σ0 Z0 [] [(0, .ref (r 7)), (1, .int a1), (2, .int a2)] [] 0
  have kp : Keep [(4, 1), (6, 3), (6, 4)] [24] σ0 σ0 := keep_rf
  refine g_aload_n hF d_X2_cast_0 rfl 0 rfl ?_
  refine g_aload_n hF d_X2_cast_1 rfl 0 rfl ?_
  refine g_callV (As := []) (rest := [.ref (r 7)]) hF (c_X2_top a g r σ0 i0) (Nat.le_of_ble_eq_true rfl) mV_X2_top m_1160 (recv_ob obC_7) rfl rfl (Nat.le_of_ble_eq_true rfl) d_X2_cast_2 (k_roa (fun q1 hq1 => ?_)) (fun _ _ _ h => h.elim)
  refine g_callV (As := [.ref (r q1)]) (rest := []) hF (c_X2_loaded a g r σ0 q1 hq1 i0) (Nat.le_of_ble_eq_true rfl) mV_X2_loaded m_1164 (recv_ob obC_7) rfl rfl (Nat.le_of_ble_eq_true rfl) d_X2_cast_5 (k_a (fun q2 σ2 ⟨hq2, iσ2, ik2⟩ => ?_)) (fun _ _ _ h => h.elim)
  have kp : Keep [(4, 1), (6, 3), (6, 4)] [24] σ0 σ2 := keep_c kp ik2 (by decide) (by decide)
  refine g_astore_n hF [(3, .ref (r q2)), (0, .ref (r 7)), (1, .int a1), (2, .int a2)] d_X2_cast_8 rfl hnn (by decide) rfl ?_
  refine g_aload_n hF d_X2_cast_9 rfl 0 rfl ?_
  refine g_getN hF 1 (obC_op hq2) (by decide) nm_402 (fval_op hq2) d_X2_cast_10 ?_
  refine g_any (fun v3 => ?_)
  refine g_iconst hF (v := (-1)) d_X2_cast_13 (by decide) ?_
  refine g_icmp_ne (yv := -1) hF 22 d_X2_cast_14 (by decide) rfl (by decide) (fun c4_14 => ?_) (fun c4_14 => ?_)
  · -- taken at 14
    refine g_aload_n hF d_X2_cast_22 rfl 0 rfl ?_
    refine g_iload_n hF d_X2_cast_23 rfl 3 rfl ?_
    refine g_iconst hF (v := 0) d_X2_cast_24 (by decide) ?_
    refine g_callVN (As := [.int a2, .int 0]) (rest := []) hF (c_X6_become a g r σ2 a2 (0 : Int32) q2 hq2 iσ2) (Nat.le_of_ble_eq_true rfl) mV_X6_become nm_1100 (recv_ob (obC_op hq2)) rfl rfl (Nat.le_of_ble_eq_true rfl) d_X2_cast_25 (k_v (fun σ5 ⟨iσ5, ik5⟩ => ?_))
    have kp : Keep [(4, 1), (6, 3), (6, 4)] [24] σ0 σ5 := keep_c kp ik5 (by decide) (by decide)
    refine g_aload_n hF d_X2_cast_28 rfl 1 rfl ?_
    refine g_aload_n hF d_X2_cast_29 rfl 0 rfl ?_
    refine g_iconst hF (v := 1) d_X2_cast_30 (by decide) ?_
    refine g_aload_n hF d_X2_cast_31 rfl 0 rfl ?_
    refine g_getN hF 2 (obC_op hq2) (by decide) nm_404 (fval_op hq2) d_X2_cast_32 ?_
    refine g_any (fun v6 => ?_)
    refine g_iadd hF d_X2_cast_35 ?_
    refine g_iload_n hF d_X2_cast_36 rfl 2 rfl ?_
    refine g_callV (As := [.ref (r q2), .int (1 + v6), .int a1]) (rest := []) hF (c_X2_raise a g r σ5 (1 + v6) a1 q2 hq2 iσ5) (Nat.le_of_ble_eq_true rfl) mV_X2_raise m_1186 (recv_ob obC_7) rfl rfl (Nat.le_of_ble_eq_true rfl) d_X2_cast_37 (k_v (fun σ7 ⟨iσ7, ik7⟩ => ?_)) (fun _ _ _ h => h.elim)
    have kp : Keep [(4, 1), (6, 3), (6, 4)] [24] σ0 σ7 := keep_c kp ik7 (by decide) (by decide)
    exact g_vret hF rfl d_X2_cast_40 ⟨rfl, rfl, rfl, ⟨iσ7, kp⟩⟩
  · -- not taken at 14
    refine g_aload_n hF d_X2_cast_17 rfl 1 rfl ?_
    refine g_iload_n hF d_X2_cast_18 rfl 2 rfl ?_
    refine g_callV (As := [.int a1]) (rest := []) hF (c_X2_refuse a g r σ2 a1 iσ2) (Nat.le_of_ble_eq_true rfl) mV_X2_refuse m_1126 (recv_ob obC_7) rfl rfl (Nat.le_of_ble_eq_true rfl) d_X2_cast_19 (k_v (fun σ8 ⟨iσ8, ik8⟩ => ?_)) (fun _ _ _ h => h.elim)
    have kp : Keep [(4, 1), (6, 3), (6, 4)] [24] σ0 σ8 := keep_c kp ik8 (by decide) (by decide)
    refine g_aload_n hF d_X2_cast_22 rfl 0 rfl ?_
    refine g_iload_n hF d_X2_cast_23 rfl 3 rfl ?_
    refine g_iconst hF (v := 0) d_X2_cast_24 (by decide) ?_
    refine g_callVN (As := [.int a2, .int 0]) (rest := []) hF (c_X6_become a g r σ8 a2 (0 : Int32) q2 hq2 iσ8) (Nat.le_of_ble_eq_true rfl) mV_X6_become nm_1100 (recv_ob (obC_op hq2)) rfl rfl (Nat.le_of_ble_eq_true rfl) d_X2_cast_25 (k_v (fun σ9 ⟨iσ9, ik9⟩ => ?_))
    have kp : Keep [(4, 1), (6, 3), (6, 4)] [24] σ0 σ9 := keep_c kp ik9 (by decide) (by decide)
    refine g_aload_n hF d_X2_cast_28 rfl 1 rfl ?_
    refine g_aload_n hF d_X2_cast_29 rfl 0 rfl ?_
    refine g_iconst hF (v := 1) d_X2_cast_30 (by decide) ?_
    refine g_aload_n hF d_X2_cast_31 rfl 0 rfl ?_
    refine g_getN hF 2 (obC_op hq2) (by decide) nm_404 (fval_op hq2) d_X2_cast_32 ?_
    refine g_any (fun v10 => ?_)
    refine g_iadd hF d_X2_cast_35 ?_
    refine g_iload_n hF d_X2_cast_36 rfl 2 rfl ?_
    refine g_callV (As := [.ref (r q2), .int (1 + v10), .int a1]) (rest := []) hF (c_X2_raise a g r σ9 (1 + v10) a1 q2 hq2 iσ9) (Nat.le_of_ble_eq_true rfl) mV_X2_raise m_1186 (recv_ob obC_7) rfl rfl (Nat.le_of_ble_eq_true rfl) d_X2_cast_37 (k_v (fun σ11 ⟨iσ11, ik11⟩ => ?_)) (fun _ _ _ h => h.elim)
    have kp : Keep [(4, 1), (6, 3), (6, 4)] [24] σ0 σ11 := keep_c kp ik11 (by decide) (by decide)
    exact g_vret hF rfl d_X2_cast_40 ⟨rfl, rfl, rfl, ⟨iσ11, kp⟩⟩
set_option maxHeartbeats 4000000 in
set_option maxRecDepth 100000 in
theorem c_X2_colon (a : Nat → Nat) (g : Nat → Nat → Int32) (r : Nat → Nat) (σ0 : St) (i0 : Inv σ0) (l : Launch) (D : va_G) (cy : Nat → ClassId) : Ct l D cy SC r (EC a g) y_X2_colon (Cond.code y_X2_colon b_X2_colon 3 none) 2 [.ref (r 7)] σ0 Z0 [] (QV (fun σ9 => (Inv σ9 ∧ Keep [(4, 1)] [24] σ0 σ9))) QF := by
  refine Ct_of (EC_ok a g) (by decide) (Nat.le_of_ble_eq_true rfl) (by decide) (fun X hnn hF => ?_)
  show G SC r X σ0 Z0 [] [(0, .ref (r 7))] [] 0
  have kp : Keep [(4, 1)] [24] σ0 σ0 := keep_rf
  refine g_aload_n hF d_X2_colon_0 rfl 0 rfl ?_
  refine g_aload_n hF d_X2_colon_1 rfl 0 rfl ?_
  refine g_callV (As := []) (rest := [.ref (r 7)]) hF (c_X2_top a g r σ0 i0) (Nat.le_of_ble_eq_true rfl) mV_X2_top m_1160 (recv_ob obC_7) rfl rfl (Nat.le_of_ble_eq_true rfl) d_X2_colon_2 (k_roa (fun q1 hq1 => ?_)) (fun _ _ _ h => h.elim)
  refine g_callV (As := [.ref (r q1)]) (rest := []) hF (c_X2_loaded a g r σ0 q1 hq1 i0) (Nat.le_of_ble_eq_true rfl) mV_X2_loaded m_1164 (recv_ob obC_7) rfl rfl (Nat.le_of_ble_eq_true rfl) d_X2_colon_5 (k_a (fun q2 σ2 ⟨hq2, iσ2, ik2⟩ => ?_)) (fun _ _ _ h => h.elim)
  have kp : Keep [(4, 1)] [24] σ0 σ2 := keep_c kp ik2 (by decide) (by decide)
  refine g_pop hF d_X2_colon_8 rfl ?_
  refine g_aload_n hF d_X2_colon_9 rfl 0 rfl ?_
  refine g_get (v := .int (σ2 7 7)) hF 7 obC_7 (by decide) m_464 rfl d_X2_colon_10 ?_
  refine g_top (v := (σ0 7 7)) (ik2 7 7 rfl rfl rfl) ?_
  refine g_iconst hF (v := 1) d_X2_colon_13 (by decide) ?_
  refine g_icmp_le (yv := 1) hF 43 d_X2_colon_14 (by decide) rfl (by decide) (fun c3_14 => ?_) (fun c3_14 => ?_)
  · -- taken at 14
    refine g_aload_n hF d_X2_colon_43 rfl 0 rfl ?_
    refine g_get (v := .ref (r 47)) hF 6 obC_7 (by decide) m_463 rfl d_X2_colon_44 ?_
    refine g_astore_n hF [(1, .ref (r 47)), (0, .ref (r 7))] d_X2_colon_47 rfl hnn (by decide) rfl ?_
    refine g_aload_n hF d_X2_colon_48 rfl 1 rfl ?_
    refine g_get (v := .ref (r 4)) hF 4 obC_7 (by decide) m_461 rfl d_X2_colon_49 ?_
    refine g_bipush hF (v := 26) d_X2_colon_52 (by decide) ?_
    refine g_iconst hF (v := (-1)) d_X2_colon_54 (by decide) ?_
    refine g_iconst hF (v := 0) d_X2_colon_55 (by decide) ?_
    refine g_iconst hF (v := 0) d_X2_colon_56 (by decide) ?_
    refine g_callVN (As := [.int 26, .int (-1), .int 0, .int 0]) (rest := []) hF (c_X0_emit a g r σ2 (26 : Int32) ((-1) : Int32) (0 : Int32) (0 : Int32) iσ2) (Nat.le_of_ble_eq_true rfl) mV_X0_emit nm_1071 (recv_ob obC_4) rfl rfl (Nat.le_of_ble_eq_true rfl) d_X2_colon_57 (k_i (fun r4 σ4 ⟨iσ4, ik4⟩ => ?_))
    have kp : Keep [(4, 1)] [24] σ0 σ4 := keep_c kp ik4 (by decide) (by decide)
    refine g_istore_n hF [(2, .int r4), (1, .ref (r 47)), (0, .ref (r 7))] d_X2_colon_60 rfl hnn (by decide) rfl ?_
    refine g_aload_n hF d_X2_colon_61 rfl 2 rfl ?_
    refine g_get (v := .ref (r 4)) hF 4 obC_7 (by decide) m_461 rfl d_X2_colon_62 ?_
    refine g_aload_n hF d_X2_colon_65 rfl 1 rfl ?_
    refine g_getN hF 10 (obC_op (isOp_47)) (by decide) nm_424 (fval_op (isOp_47)) d_X2_colon_66 ?_
    refine g_any (fun v5 => ?_)
    refine g_aload_n hF d_X2_colon_69 rfl 2 rfl ?_
    refine g_get (v := .ref (r 4)) hF 4 obC_7 (by decide) m_461 rfl d_X2_colon_70 ?_
    refine g_getN (v := .int (σ4 4 1)) hF 1 obC_4 (by decide) nm_155 rfl d_X2_colon_73 ?_
    refine g_callVN (As := [.int v5, .int (σ4 4 1)]) (rest := []) hF (c_X0_aim a g r σ4 v5 (σ4 4 1) iσ4) (Nat.le_of_ble_eq_true rfl) mV_X0_aim nm_1209 (recv_ob obC_4) rfl rfl (Nat.le_of_ble_eq_true rfl) d_X2_colon_76 (k_v (fun σ6 ⟨iσ6, ik6⟩ => ?_))
    have kp : Keep [(4, 1)] [24] σ0 σ6 := keep_c kp ik6 (by decide) (by decide)
    refine g_aload_n hF d_X2_colon_79 rfl 1 rfl ?_
    refine g_iload_n hF d_X2_colon_80 rfl 0 rfl ?_
    refine g_putN hF 10 (obC_op (isOp_47)) (by decide) nm_424 rfl rfl (rf_op (isOp_47)) d_X2_colon_81 ?_
    obtain ⟨σ7, eσ7⟩ : ∃ z, z = upC σ6 47 10 r4 := ⟨_, rfl⟩
    rw [← eσ7]
    have ik7 : Keep [] [] σ6 σ7 := by rw [eσ7]; exact keep_op isOp_47
    have kp : Keep [(4, 1)] [24] σ0 σ7 := keep_c kp ik7 (by decide) (by decide)
    have iσ7 : Inv σ7 := inv_keep ik7 iσ6
    exact g_vret hF rfl d_X2_colon_84 ⟨rfl, rfl, rfl, ⟨iσ7, kp⟩⟩
  · -- not taken at 14
    refine g_aload_n hF d_X2_colon_17 rfl 0 rfl ?_
    refine g_get (v := .int (σ2 7 7)) hF 7 obC_7 (by decide) m_464 rfl d_X2_colon_18 ?_
    refine g_top (v := (σ0 7 7)) (ik2 7 7 rfl rfl rfl) ?_
    refine g_aload_n hF d_X2_colon_21 rfl 0 rfl ?_
    refine g_get (v := .ref (r 46)) hF 5 obC_7 (by decide) m_462 rfl d_X2_colon_22 ?_
    refine g_alenR hF (by decide) rfl (v := 500) (by decide) d_X2_colon_25 ?_
    refine g_icmp_gt (yv := 500) hF 43 d_X2_colon_26 (by decide) rfl (by decide) (fun c8_26 => ?_) (fun c8_26 => ?_)
    · -- taken at 26
      refine g_aload_n hF d_X2_colon_43 rfl 0 rfl ?_
      refine g_get (v := .ref (r 47)) hF 6 obC_7 (by decide) m_463 rfl d_X2_colon_44 ?_
      refine g_astore_n hF [(1, .ref (r 47)), (0, .ref (r 7))] d_X2_colon_47 rfl hnn (by decide) rfl ?_
      refine g_aload_n hF d_X2_colon_48 rfl 1 rfl ?_
      refine g_get (v := .ref (r 4)) hF 4 obC_7 (by decide) m_461 rfl d_X2_colon_49 ?_
      refine g_bipush hF (v := 26) d_X2_colon_52 (by decide) ?_
      refine g_iconst hF (v := (-1)) d_X2_colon_54 (by decide) ?_
      refine g_iconst hF (v := 0) d_X2_colon_55 (by decide) ?_
      refine g_iconst hF (v := 0) d_X2_colon_56 (by decide) ?_
      refine g_callVN (As := [.int 26, .int (-1), .int 0, .int 0]) (rest := []) hF (c_X0_emit a g r σ2 (26 : Int32) ((-1) : Int32) (0 : Int32) (0 : Int32) iσ2) (Nat.le_of_ble_eq_true rfl) mV_X0_emit nm_1071 (recv_ob obC_4) rfl rfl (Nat.le_of_ble_eq_true rfl) d_X2_colon_57 (k_i (fun r9 σ9 ⟨iσ9, ik9⟩ => ?_))
      have kp : Keep [(4, 1)] [24] σ0 σ9 := keep_c kp ik9 (by decide) (by decide)
      refine g_istore_n hF [(2, .int r9), (1, .ref (r 47)), (0, .ref (r 7))] d_X2_colon_60 rfl hnn (by decide) rfl ?_
      refine g_aload_n hF d_X2_colon_61 rfl 2 rfl ?_
      refine g_get (v := .ref (r 4)) hF 4 obC_7 (by decide) m_461 rfl d_X2_colon_62 ?_
      refine g_aload_n hF d_X2_colon_65 rfl 1 rfl ?_
      refine g_getN hF 10 (obC_op (isOp_47)) (by decide) nm_424 (fval_op (isOp_47)) d_X2_colon_66 ?_
      refine g_any (fun v10 => ?_)
      refine g_aload_n hF d_X2_colon_69 rfl 2 rfl ?_
      refine g_get (v := .ref (r 4)) hF 4 obC_7 (by decide) m_461 rfl d_X2_colon_70 ?_
      refine g_getN (v := .int (σ9 4 1)) hF 1 obC_4 (by decide) nm_155 rfl d_X2_colon_73 ?_
      refine g_callVN (As := [.int v10, .int (σ9 4 1)]) (rest := []) hF (c_X0_aim a g r σ9 v10 (σ9 4 1) iσ9) (Nat.le_of_ble_eq_true rfl) mV_X0_aim nm_1209 (recv_ob obC_4) rfl rfl (Nat.le_of_ble_eq_true rfl) d_X2_colon_76 (k_v (fun σ11 ⟨iσ11, ik11⟩ => ?_))
      have kp : Keep [(4, 1)] [24] σ0 σ11 := keep_c kp ik11 (by decide) (by decide)
      refine g_aload_n hF d_X2_colon_79 rfl 1 rfl ?_
      refine g_iload_n hF d_X2_colon_80 rfl 0 rfl ?_
      refine g_putN hF 10 (obC_op (isOp_47)) (by decide) nm_424 rfl rfl (rf_op (isOp_47)) d_X2_colon_81 ?_
      obtain ⟨σ12, eσ12⟩ : ∃ z, z = upC σ11 47 10 r9 := ⟨_, rfl⟩
      rw [← eσ12]
      have ik12 : Keep [] [] σ11 σ12 := by rw [eσ12]; exact keep_op isOp_47
      have kp : Keep [(4, 1)] [24] σ0 σ12 := keep_c kp ik12 (by decide) (by decide)
      have iσ12 : Inv σ12 := inv_keep ik12 iσ11
      exact g_vret hF rfl d_X2_colon_84 ⟨rfl, rfl, rfl, ⟨iσ12, kp⟩⟩
    · -- not taken at 26
      refine g_aload_n hF d_X2_colon_29 rfl 0 rfl ?_
      refine g_get (v := .ref (r 46)) hF 5 obC_7 (by decide) m_462 rfl d_X2_colon_30 ?_
      refine g_aload_n hF d_X2_colon_33 rfl 0 rfl ?_
      refine g_get (v := .int (σ2 7 7)) hF 7 obC_7 (by decide) m_464 rfl d_X2_colon_34 ?_
      refine g_top (v := (σ0 7 7)) (ik2 7 7 rfl rfl rfl) ?_
      refine g_iconst hF (v := 2) d_X2_colon_37 (by decide) ?_
      refine g_isub hF d_X2_colon_38 ?_
      refine g_aald hF (by decide) rfl (by refine s_in (by decide) ?_ ?_ <;> (have e0 := s_rng (σ0 7 7); have e1 : (2 : Int32).toInt = 2 := (by decide); obtain ⟨k2, e2⟩ := s_sub (σ0 7 7) (2 : Int32); have e2a := s_rng ((σ0 7 7) - 2); have e4 : (1 : Int32).toInt = 1 := (by decide); have e5 : (500 : Int32).toInt = 500 := (by decide); omega)) d_X2_colon_39 ?_
      obtain ⟨q13, eq13⟩ : ∃ q, q = 65 + (((σ0 7 7) - 2)).toNatClampNeg := ⟨_, rfl⟩
      rw [← eq13]
      have hq13 : isOp q13 := isOp_pv eq13 (by refine s_in (by decide) ?_ ?_ <;> (have e0 := s_rng (σ0 7 7); have e1 : (2 : Int32).toInt = 2 := (by decide); obtain ⟨k2, e2⟩ := s_sub (σ0 7 7) (2 : Int32); have e2a := s_rng ((σ0 7 7) - 2); have e4 : (1 : Int32).toInt = 1 := (by decide); have e5 : (500 : Int32).toInt = 500 := (by decide); omega))
      refine g_goto hF 47 d_X2_colon_40 (by decide) ?_
      refine g_astore_n hF [(1, .ref (r q13)), (0, .ref (r 7))] d_X2_colon_47 rfl hnn (by decide) rfl ?_
      refine g_aload_n hF d_X2_colon_48 rfl 1 rfl ?_
      refine g_get (v := .ref (r 4)) hF 4 obC_7 (by decide) m_461 rfl d_X2_colon_49 ?_
      refine g_bipush hF (v := 26) d_X2_colon_52 (by decide) ?_
      refine g_iconst hF (v := (-1)) d_X2_colon_54 (by decide) ?_
      refine g_iconst hF (v := 0) d_X2_colon_55 (by decide) ?_
      refine g_iconst hF (v := 0) d_X2_colon_56 (by decide) ?_
      refine g_callVN (As := [.int 26, .int (-1), .int 0, .int 0]) (rest := []) hF (c_X0_emit a g r σ2 (26 : Int32) ((-1) : Int32) (0 : Int32) (0 : Int32) iσ2) (Nat.le_of_ble_eq_true rfl) mV_X0_emit nm_1071 (recv_ob obC_4) rfl rfl (Nat.le_of_ble_eq_true rfl) d_X2_colon_57 (k_i (fun r14 σ14 ⟨iσ14, ik14⟩ => ?_))
      have kp : Keep [(4, 1)] [24] σ0 σ14 := keep_c kp ik14 (by decide) (by decide)
      refine g_istore_n hF [(2, .int r14), (1, .ref (r q13)), (0, .ref (r 7))] d_X2_colon_60 rfl hnn (by decide) rfl ?_
      refine g_aload_n hF d_X2_colon_61 rfl 2 rfl ?_
      refine g_get (v := .ref (r 4)) hF 4 obC_7 (by decide) m_461 rfl d_X2_colon_62 ?_
      refine g_aload_n hF d_X2_colon_65 rfl 1 rfl ?_
      refine g_getN hF 10 (obC_op hq13) (by decide) nm_424 (fval_op hq13) d_X2_colon_66 ?_
      refine g_any (fun v15 => ?_)
      refine g_aload_n hF d_X2_colon_69 rfl 2 rfl ?_
      refine g_get (v := .ref (r 4)) hF 4 obC_7 (by decide) m_461 rfl d_X2_colon_70 ?_
      refine g_getN (v := .int (σ14 4 1)) hF 1 obC_4 (by decide) nm_155 rfl d_X2_colon_73 ?_
      refine g_callVN (As := [.int v15, .int (σ14 4 1)]) (rest := []) hF (c_X0_aim a g r σ14 v15 (σ14 4 1) iσ14) (Nat.le_of_ble_eq_true rfl) mV_X0_aim nm_1209 (recv_ob obC_4) rfl rfl (Nat.le_of_ble_eq_true rfl) d_X2_colon_76 (k_v (fun σ16 ⟨iσ16, ik16⟩ => ?_))
      have kp : Keep [(4, 1)] [24] σ0 σ16 := keep_c kp ik16 (by decide) (by decide)
      refine g_aload_n hF d_X2_colon_79 rfl 1 rfl ?_
      refine g_iload_n hF d_X2_colon_80 rfl 0 rfl ?_
      refine g_putN hF 10 (obC_op hq13) (by decide) nm_424 rfl rfl (rf_op hq13) d_X2_colon_81 ?_
      obtain ⟨σ17, eσ17⟩ : ∃ z, z = upC σ16 q13 10 r14 := ⟨_, rfl⟩
      rw [← eσ17]
      have ik17 : Keep [] [] σ16 σ17 := by rw [eσ17]; exact keep_op hq13
      have kp : Keep [(4, 1)] [24] σ0 σ17 := keep_c kp ik17 (by decide) (by decide)
      have iσ17 : Inv σ17 := inv_keep ik17 iσ16
      exact g_vret hF rfl d_X2_colon_84 ⟨rfl, rfl, rfl, ⟨iσ17, kp⟩⟩
