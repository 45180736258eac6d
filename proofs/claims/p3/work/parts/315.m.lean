set_option maxHeartbeats 4000000 in
set_option maxRecDepth 100000 in
theorem c_X5_begin (a : Nat → Nat) (g : Nat → Nat → Int32) (r : Nat → Nat) (σ0 : St) (a1 : Int32) (i0 : Inv σ0) (l : Launch) (D : va_G) (cy : Nat → ClassId) : Ct l D cy SC r (EC a g) y_X5_begin (Cond.code y_X5_begin b_X5_begin 2 none) 2 [.ref (r 12), .int a1] σ0 Z0 [] (QV (fun σ9 => (Inv σ9 ∧ Keep [(11, 1), (11, 2), (12, 7), (12, 8), (12, 9), (12, 10), (12, 11), (12, 12), (12, 13), (12, 14), (12, 15), (12, 16), (12, 17)] [62] σ0 σ9))) QF := by
  refine Ct_of (EC_ok a g) (by decide) (Nat.le_of_ble_eq_true rfl) (by decide) (fun X hnn hF => ?_)
  show G SC r X σ0 Z0 [] [(0, .ref (r 12)), (1, .int a1)] [] 0
  have kp : Keep [(11, 1), (11, 2), (12, 7), (12, 8), (12, 9), (12, 10), (12, 11), (12, 12), (12, 13), (12, 14), (12, 15), (12, 16), (12, 17)] [62] σ0 σ0 := keep_rf
  refine g_aload_n hF d_X5_begin_0 rfl 0 rfl ?_
  refine g_get (v := .ref (r 62)) hF 4 obC_12 (by decide) m_675 rfl d_X5_begin_1 ?_
  refine g_iconst hF (v := 0) d_X5_begin_4 (by decide) ?_
  refine g_callS (As := [.ref (r 62), .int 0]) (rest := []) hF (c_fill a g r σ0 arC_62 (by decide) (0 : Int32)) (Nat.le_of_ble_eq_true rfl) mS_Arrays_fill m_1637 rfl rfl (Nat.le_of_ble_eq_true rfl) d_X5_begin_5 (k_v (fun σ2 ⟨g2, eσ2⟩ => ?_)) (fun _ _ _ h => h.elim)
  subst eσ2
  have kp : Keep [(11, 1), (11, 2), (12, 7), (12, 8), (12, 9), (12, 10), (12, 11), (12, 12), (12, 13), (12, 14), (12, 15), (12, 16), (12, 17)] [62] σ0 (upF σ0 62 g2) := keep_F kp (by decide)
  refine g_aload_n hF d_X5_begin_8 rfl 0 rfl ?_
  refine g_get (v := .ref (r 10)) hF 1 obC_12 (by decide) m_672 rfl d_X5_begin_9 ?_
  refine g_aload_n hF d_X5_begin_12 rfl 0 rfl ?_
  refine g_get (v := .ref (r 62)) hF 4 obC_12 (by decide) m_675 rfl d_X5_begin_13 ?_
  have j4 : Inv (upF σ0 62 g2) := ⟨i0.1, i0.2.1, i0.2.2.1, i0.2.2.2.1, i0.2.2.2.2.1, i0.2.2.2.2.2.1, i0.2.2.2.2.2.2.1, i0.2.2.2.2.2.2.2.1, i0.2.2.2.2.2.2.2.2.1, i0.2.2.2.2.2.2.2.2.2.1, i0.2.2.2.2.2.2.2.2.2.2.1, i0.2.2.2.2.2.2.2.2.2.2.2.1, i0.2.2.2.2.2.2.2.2.2.2.2.2.1, i0.2.2.2.2.2.2.2.2.2.2.2.2.2.1, i0.2.2.2.2.2.2.2.2.2.2.2.2.2.2.1, i0.2.2.2.2.2.2.2.2.2.2.2.2.2.2.2.1, i0.2.2.2.2.2.2.2.2.2.2.2.2.2.2.2.2.1, i0.2.2.2.2.2.2.2.2.2.2.2.2.2.2.2.2.2.1, i0.2.2.2.2.2.2.2.2.2.2.2.2.2.2.2.2.2.2.1, i0.2.2.2.2.2.2.2.2.2.2.2.2.2.2.2.2.2.2.2⟩
  refine g_callVN (As := [.ref (r 62)]) (rest := []) hF (c_X4_fill_r10_r62 a g r (upF σ0 62 g2) j4) (Nat.le_of_ble_eq_true rfl) mV_X4_fill nm_1640 (recv_ob obC_10) rfl rfl (Nat.le_of_ble_eq_true rfl) d_X5_begin_16 (k_v (fun σ3 ⟨iσ3, ik3⟩ => ?_))
  have kp : Keep [(11, 1), (11, 2), (12, 7), (12, 8), (12, 9), (12, 10), (12, 11), (12, 12), (12, 13), (12, 14), (12, 15), (12, 16), (12, 17)] [62] σ0 σ3 := keep_c kp ik3 (by decide) (by decide)
  refine g_aload_n hF d_X5_begin_19 rfl 0 rfl ?_
  refine g_get (v := .ref (r 11)) hF 2 obC_12 (by decide) m_673 rfl d_X5_begin_20 ?_
  refine g_callVN (As := []) (rest := []) hF (c_X9_begin a g r σ3 iσ3) (Nat.le_of_ble_eq_true rfl) mV_X9_begin nm_1644 (recv_ob obC_11) rfl rfl (Nat.le_of_ble_eq_true rfl) d_X5_begin_23 (k_v (fun σ5 ⟨iσ5, ik5⟩ => ?_))
  have kp : Keep [(11, 1), (11, 2), (12, 7), (12, 8), (12, 9), (12, 10), (12, 11), (12, 12), (12, 13), (12, 14), (12, 15), (12, 16), (12, 17)] [62] σ0 σ5 := keep_c kp ik5 (by decide) (by decide)
  refine g_aload_n hF d_X5_begin_26 rfl 0 rfl ?_
  refine g_iload_n hF d_X5_begin_27 rfl 1 rfl ?_
  refine g_put (v := a1) hF 12 obC_12 (by decide) m_684 rfl rfl rfl d_X5_begin_28 ?_
  have kp : Keep [(11, 1), (11, 2), (12, 7), (12, 8), (12, 9), (12, 10), (12, 11), (12, 12), (12, 13), (12, 14), (12, 15), (12, 16), (12, 17)] [62] σ0 (upC σ5 12 12 a1) := keep_f kp (by decide)
  refine g_aload_n hF d_X5_begin_31 rfl 0 rfl ?_
  refine g_iconst hF (v := (-1)) d_X5_begin_32 (by decide) ?_
  refine g_put (v := (-1)) hF 13 obC_12 (by decide) m_685 rfl rfl rfl d_X5_begin_33 ?_
  have kp : Keep [(11, 1), (11, 2), (12, 7), (12, 8), (12, 9), (12, 10), (12, 11), (12, 12), (12, 13), (12, 14), (12, 15), (12, 16), (12, 17)] [62] σ0 (upC (upC σ5 12 12 a1) 12 13 (-1)) := keep_f kp (by decide)
  refine g_aload_n hF d_X5_begin_36 rfl 0 rfl ?_
  refine g_iconst hF (v := 0) d_X5_begin_37 (by decide) ?_
  refine g_put (v := 0) hF 14 obC_12 (by decide) m_686 rfl rfl rfl d_X5_begin_38 ?_
  have kp : Keep [(11, 1), (11, 2), (12, 7), (12, 8), (12, 9), (12, 10), (12, 11), (12, 12), (12, 13), (12, 14), (12, 15), (12, 16), (12, 17)] [62] σ0 (upC (upC (upC σ5 12 12 a1) 12 13 (-1)) 12 14 0) := keep_f kp (by decide)
  refine g_aload_n hF d_X5_begin_41 rfl 0 rfl ?_
  refine g_iconst hF (v := 0) d_X5_begin_42 (by decide) ?_
  refine g_put (v := 0) hF 15 obC_12 (by decide) m_688 rfl rfl rfl d_X5_begin_43 ?_
  have kp : Keep [(11, 1), (11, 2), (12, 7), (12, 8), (12, 9), (12, 10), (12, 11), (12, 12), (12, 13), (12, 14), (12, 15), (12, 16), (12, 17)] [62] σ0 (upC (upC (upC (upC σ5 12 12 a1) 12 13 (-1)) 12 14 0) 12 15 0) := keep_f kp (by decide)
  refine g_aload_n hF d_X5_begin_46 rfl 0 rfl ?_
  refine g_iconst hF (v := (-1)) d_X5_begin_47 (by decide) ?_
  refine g_put (v := (-1)) hF 16 obC_12 (by decide) m_690 rfl rfl rfl d_X5_begin_48 ?_
  have kp : Keep [(11, 1), (11, 2), (12, 7), (12, 8), (12, 9), (12, 10), (12, 11), (12, 12), (12, 13), (12, 14), (12, 15), (12, 16), (12, 17)] [62] σ0 (upC (upC (upC (upC (upC σ5 12 12 a1) 12 13 (-1)) 12 14 0) 12 15 0) 12 16 (-1)) := keep_f kp (by decide)
  refine g_aload_n hF d_X5_begin_51 rfl 0 rfl ?_
  refine g_iconst hF (v := 0) d_X5_begin_52 (by decide) ?_
  refine g_put (v := 0) hF 17 obC_12 (by decide) m_692 rfl rfl rfl d_X5_begin_53 ?_
  have kp : Keep [(11, 1), (11, 2), (12, 7), (12, 8), (12, 9), (12, 10), (12, 11), (12, 12), (12, 13), (12, 14), (12, 15), (12, 16), (12, 17)] [62] σ0 (upC (upC (upC (upC (upC (upC σ5 12 12 a1) 12 13 (-1)) 12 14 0) 12 15 0) 12 16 (-1)) 12 17 0) := keep_f kp (by decide)
  refine g_aload_n hF d_X5_begin_56 rfl 0 rfl ?_
  refine g_iconst hF (v := 0) d_X5_begin_57 (by decide) ?_
  refine g_put (v := 0) hF 7 obC_12 (by decide) m_679 rfl rfl rfl d_X5_begin_58 ?_
  have kp : Keep [(11, 1), (11, 2), (12, 7), (12, 8), (12, 9), (12, 10), (12, 11), (12, 12), (12, 13), (12, 14), (12, 15), (12, 16), (12, 17)] [62] σ0 (upC (upC (upC (upC (upC (upC (upC σ5 12 12 a1) 12 13 (-1)) 12 14 0) 12 15 0) 12 16 (-1)) 12 17 0) 12 7 0) := keep_f kp (by decide)
  refine g_aload_n hF d_X5_begin_61 rfl 0 rfl ?_
  refine g_iconst hF (v := 0) d_X5_begin_62 (by decide) ?_
  refine g_put (v := 0) hF 8 obC_12 (by decide) m_680 rfl rfl rfl d_X5_begin_63 ?_
  have kp : Keep [(11, 1), (11, 2), (12, 7), (12, 8), (12, 9), (12, 10), (12, 11), (12, 12), (12, 13), (12, 14), (12, 15), (12, 16), (12, 17)] [62] σ0 (upC (upC (upC (upC (upC (upC (upC (upC σ5 12 12 a1) 12 13 (-1)) 12 14 0) 12 15 0) 12 16 (-1)) 12 17 0) 12 7 0) 12 8 0) := keep_f kp (by decide)
  refine g_aload_n hF d_X5_begin_66 rfl 0 rfl ?_
  refine g_bipush hF (v := 8) d_X5_begin_67 (by decide) ?_
  refine g_put (v := 8) hF 9 obC_12 (by decide) m_681 rfl rfl rfl d_X5_begin_69 ?_
  have kp : Keep [(11, 1), (11, 2), (12, 7), (12, 8), (12, 9), (12, 10), (12, 11), (12, 12), (12, 13), (12, 14), (12, 15), (12, 16), (12, 17)] [62] σ0 (upC (upC (upC (upC (upC (upC (upC (upC (upC σ5 12 12 a1) 12 13 (-1)) 12 14 0) 12 15 0) 12 16 (-1)) 12 17 0) 12 7 0) 12 8 0) 12 9 8) := keep_f kp (by decide)
  refine g_aload_n hF d_X5_begin_72 rfl 0 rfl ?_
  refine g_bipush hF (v := 8) d_X5_begin_73 (by decide) ?_
  refine g_put (v := 8) hF 10 obC_12 (by decide) m_682 rfl rfl rfl d_X5_begin_75 ?_
  have kp : Keep [(11, 1), (11, 2), (12, 7), (12, 8), (12, 9), (12, 10), (12, 11), (12, 12), (12, 13), (12, 14), (12, 15), (12, 16), (12, 17)] [62] σ0 (upC (upC (upC (upC (upC (upC (upC (upC (upC (upC σ5 12 12 a1) 12 13 (-1)) 12 14 0) 12 15 0) 12 16 (-1)) 12 17 0) 12 7 0) 12 8 0) 12 9 8) 12 10 8) := keep_f kp (by decide)
  refine g_aload_n hF d_X5_begin_78 rfl 0 rfl ?_
  refine g_ldc (v := 32768) hF m_669 d_X5_begin_79 ?_
  refine g_put (v := 32768) hF 11 obC_12 (by decide) m_683 rfl rfl rfl d_X5_begin_81 ?_
  have kp : Keep [(11, 1), (11, 2), (12, 7), (12, 8), (12, 9), (12, 10), (12, 11), (12, 12), (12, 13), (12, 14), (12, 15), (12, 16), (12, 17)] [62] σ0 (upC (upC (upC (upC (upC (upC (upC (upC (upC (upC (upC σ5 12 12 a1) 12 13 (-1)) 12 14 0) 12 15 0) 12 16 (-1)) 12 17 0) 12 7 0) 12 8 0) 12 9 8) 12 10 8) 12 11 32768) := keep_f kp (by decide)
  have j6 : Inv (upC (upC (upC (upC (upC (upC (upC (upC (upC (upC (upC σ5 12 12 a1) 12 13 (-1)) 12 14 0) 12 15 0) 12 16 (-1)) 12 17 0) 12 7 0) 12 8 0) 12 9 8) 12 10 8) 12 11 32768) := ⟨iσ5.1, iσ5.2.1, iσ5.2.2.1, iσ5.2.2.2.1, iσ5.2.2.2.2.1, iσ5.2.2.2.2.2.1, iσ5.2.2.2.2.2.2.1, iσ5.2.2.2.2.2.2.2.1, iσ5.2.2.2.2.2.2.2.2.1, iσ5.2.2.2.2.2.2.2.2.2.1, iσ5.2.2.2.2.2.2.2.2.2.2.1, iσ5.2.2.2.2.2.2.2.2.2.2.2.1, iσ5.2.2.2.2.2.2.2.2.2.2.2.2.1, iσ5.2.2.2.2.2.2.2.2.2.2.2.2.2.1, iσ5.2.2.2.2.2.2.2.2.2.2.2.2.2.2.1, iσ5.2.2.2.2.2.2.2.2.2.2.2.2.2.2.2.1, iσ5.2.2.2.2.2.2.2.2.2.2.2.2.2.2.2.2.1, iσ5.2.2.2.2.2.2.2.2.2.2.2.2.2.2.2.2.2.1, iσ5.2.2.2.2.2.2.2.2.2.2.2.2.2.2.2.2.2.2.1, iσ5.2.2.2.2.2.2.2.2.2.2.2.2.2.2.2.2.2.2.2⟩
  exact g_vret hF rfl d_X5_begin_84 ⟨rfl, rfl, rfl, ⟨j6, kp⟩⟩
set_option maxHeartbeats 4000000 in
set_option maxRecDepth 100000 in
theorem c_X5_calculate (a : Nat → Nat) (g : Nat → Nat → Int32) (r : Nat → Nat) (σ0 : St) (a1 : Int32) (a2 : Int32) (i0 : Inv σ0) (l : Launch) (D : va_G) (cy : Nat → ClassId) : Ct l D cy SC r (EC a g) y_X5_calculate (Cond.code y_X5_calculate b_X5_calculate 5 none) 2 [.ref (r 12), .int a1, .int a2] σ0 Z0 [] (QV (fun σ9 => (Inv σ9 ∧ Keep [(12, 9), (12, 13), (12, 16), (12, 17)] [63] σ0 σ9))) QF := by
  refine Ct_of (EC_ok a g) (by decide) (Nat.le_of_ble_eq_true rfl) (by decide) (fun X hnn hF => ?_)
  show G SC r X σ0 Z0 [] [(0, .ref (r 12)), (1, .int a1), (2, .int a2)] [] 0
  have kp : Keep [(12, 9), (12, 13), (12, 16), (12, 17)] [63] σ0 σ0 := keep_rf
  refine g_aload_n hF d_X5_calculate_0 rfl 0 rfl ?_
  refine g_callV (As := []) (rest := []) hF (c_X5_pop a g r σ0 i0) (Nat.le_of_ble_eq_true rfl) mV_X5_pop m_1681 (recv_ob obC_12) rfl rfl (Nat.le_of_ble_eq_true rfl) d_X5_calculate_1 (k_i (fun r1 σ1 ⟨iσ1, ik1⟩ => ?_)) (fun _ _ _ h => h.elim)
  have kp : Keep [(12, 9), (12, 13), (12, 16), (12, 17)] [63] σ0 σ1 := keep_c kp ik1 (by decide) (by decide)
  refine g_istore_n hF [(3, .int r1), (0, .ref (r 12)), (1, .int a1), (2, .int a2)] d_X5_calculate_4 rfl hnn (by decide) rfl ?_
  refine g_aload_n hF d_X5_calculate_5 rfl 1 rfl ?_
  refine g_callV (As := []) (rest := []) hF (c_X5_pop a g r σ1 iσ1) (Nat.le_of_ble_eq_true rfl) mV_X5_pop m_1681 (recv_ob obC_12) rfl rfl (Nat.le_of_ble_eq_true rfl) d_X5_calculate_6 (k_i (fun r2 σ2 ⟨iσ2, ik2⟩ => ?_)) (fun _ _ _ h => h.elim)
  have kp : Keep [(12, 9), (12, 13), (12, 16), (12, 17)] [63] σ0 σ2 := keep_c kp ik2 (by decide) (by decide)
  refine g_istore hF [(4, .int r2), (3, .int r1), (0, .ref (r 12)), (1, .int a1), (2, .int a2)] d_X5_calculate_9 hnn (by decide) rfl ?_
  refine g_iload_n hF d_X5_calculate_11 rfl 3 rfl ?_
  refine g_bipush hF (v := 46) d_X5_calculate_12 (by decide) ?_
  refine g_icmp_eq (yv := 46) hF 23 d_X5_calculate_14 (by decide) rfl (by decide) (fun c3_14 => ?_) (fun c3_14 => ?_)
  · -- taken at 14
    refine g_iload_n hF d_X5_calculate_23 rfl 1 rfl ?_
    refine g_if_ne hF 45 d_X5_calculate_24 (by decide) rfl (fun c4_24 => ?_) (fun c4_24 => ?_)
    · -- taken at 24
      refine g_aload_n hF d_X5_calculate_45 rfl 2 rfl ?_
      refine g_iload_n hF d_X5_calculate_46 rfl 3 rfl ?_
      refine g_iload hF d_X5_calculate_47 0 rfl ?_
      refine g_iload_n hF d_X5_calculate_49 rfl 1 rfl ?_
      refine g_callS (As := [.int a1, .int r2, .int r1]) (rest := [.ref (r 12)]) hF (c_X5_worked a g r σ2 a1 r2 r1 iσ2) (Nat.le_of_ble_eq_true rfl) mS_X5_worked m_1685 rfl rfl (Nat.le_of_ble_eq_true rfl) d_X5_calculate_50 (k_ro (fun r5 => ?_)) (fun _ _ _ h => h.elim)
      refine g_callV (As := [.int r5]) (rest := []) hF (c_X5_push a g r σ2 r5 iσ2) (Nat.le_of_ble_eq_true rfl) mV_X5_push m_1686 (recv_ob obC_12) rfl rfl (Nat.le_of_ble_eq_true rfl) d_X5_calculate_53 (k_v (fun σ6 ⟨iσ6, ik6⟩ => ?_)) (fun _ _ _ h => h.elim)
      have kp : Keep [(12, 9), (12, 13), (12, 16), (12, 17)] [63] σ0 σ6 := keep_c kp ik6 (by decide) (by decide)
      exact g_vret hF rfl d_X5_calculate_56 ⟨rfl, rfl, rfl, ⟨iσ6, kp⟩⟩
    · -- not taken at 24
      refine g_aload_n hF d_X5_calculate_27 rfl 2 rfl ?_
      refine g_iconst hF (v := 1) d_X5_calculate_28 (by decide) ?_
      refine g_aload_n hF d_X5_calculate_29 rfl 2 rfl ?_
      refine g_get (v := .ref (r 24)) hF 3 obC_12 (by decide) m_674 rfl d_X5_calculate_30 ?_
      refine g_iload_n hF d_X5_calculate_33 rfl 4 rfl ?_
      refine g_iconst hF (v := 1) d_X5_calculate_34 (by decide) ?_
      refine g_iadd hF d_X5_calculate_35 ?_
      refine g_callSN (As := [.ref (r 24), .int (a2 + 1)]) (rest := [.int 1, .ref (r 12)]) hF (c_at a g r σ2 arC_24 (by decide) (a2 + 1)) (Nat.le_of_ble_eq_true rfl) mS_X12_at nm_1660 rfl rfl (Nat.le_of_ble_eq_true rfl) d_X5_calculate_36 (k_rop (fun r7 hr7 => ?_))
      refine g_callV (As := [.int 1, .int r7]) (rest := []) hF (c_X5_fail a g r σ2 (1 : Int32) r7 iσ2) (Nat.le_of_ble_eq_true rfl) mV_X5_fail m_1656 (recv_ob obC_12) rfl rfl (Nat.le_of_ble_eq_true rfl) d_X5_calculate_39 (k_v (fun σ8 ⟨iσ8, ik8⟩ => ?_)) (fun _ _ _ h => h.elim)
      have kp : Keep [(12, 9), (12, 13), (12, 16), (12, 17)] [63] σ0 σ8 := keep_c kp ik8 (by decide) (by decide)
      refine g_goto hF 56 d_X5_calculate_42 (by decide) ?_
      exact g_vret hF rfl d_X5_calculate_56 ⟨rfl, rfl, rfl, ⟨iσ8, kp⟩⟩
  · -- not taken at 14
    refine g_iload_n hF d_X5_calculate_17 rfl 3 rfl ?_
    refine g_bipush hF (v := 47) d_X5_calculate_18 (by decide) ?_
    refine g_icmp_ne (yv := 47) hF 45 d_X5_calculate_20 (by decide) rfl (by decide) (fun c9_20 => ?_) (fun c9_20 => ?_)
    · -- taken at 20
      refine g_aload_n hF d_X5_calculate_45 rfl 2 rfl ?_
      refine g_iload_n hF d_X5_calculate_46 rfl 3 rfl ?_
      refine g_iload hF d_X5_calculate_47 0 rfl ?_
      refine g_iload_n hF d_X5_calculate_49 rfl 1 rfl ?_
      refine g_callS (As := [.int a1, .int r2, .int r1]) (rest := [.ref (r 12)]) hF (c_X5_worked a g r σ2 a1 r2 r1 iσ2) (Nat.le_of_ble_eq_true rfl) mS_X5_worked m_1685 rfl rfl (Nat.le_of_ble_eq_true rfl) d_X5_calculate_50 (k_ro (fun r10 => ?_)) (fun _ _ _ h => h.elim)
      refine g_callV (As := [.int r10]) (rest := []) hF (c_X5_push a g r σ2 r10 iσ2) (Nat.le_of_ble_eq_true rfl) mV_X5_push m_1686 (recv_ob obC_12) rfl rfl (Nat.le_of_ble_eq_true rfl) d_X5_calculate_53 (k_v (fun σ11 ⟨iσ11, ik11⟩ => ?_)) (fun _ _ _ h => h.elim)
      have kp : Keep [(12, 9), (12, 13), (12, 16), (12, 17)] [63] σ0 σ11 := keep_c kp ik11 (by decide) (by decide)
      exact g_vret hF rfl d_X5_calculate_56 ⟨rfl, rfl, rfl, ⟨iσ11, kp⟩⟩
    · -- not taken at 20
      refine g_iload_n hF d_X5_calculate_23 rfl 1 rfl ?_
      refine g_if_ne hF 45 d_X5_calculate_24 (by decide) rfl (fun c12_24 => ?_) (fun c12_24 => ?_)
      · -- taken at 24
        refine g_aload_n hF d_X5_calculate_45 rfl 2 rfl ?_
        refine g_iload_n hF d_X5_calculate_46 rfl 3 rfl ?_
        refine g_iload hF d_X5_calculate_47 0 rfl ?_
        refine g_iload_n hF d_X5_calculate_49 rfl 1 rfl ?_
        refine g_callS (As := [.int a1, .int r2, .int r1]) (rest := [.ref (r 12)]) hF (c_X5_worked a g r σ2 a1 r2 r1 iσ2) (Nat.le_of_ble_eq_true rfl) mS_X5_worked m_1685 rfl rfl (Nat.le_of_ble_eq_true rfl) d_X5_calculate_50 (k_ro (fun r13 => ?_)) (fun _ _ _ h => h.elim)
        refine g_callV (As := [.int r13]) (rest := []) hF (c_X5_push a g r σ2 r13 iσ2) (Nat.le_of_ble_eq_true rfl) mV_X5_push m_1686 (recv_ob obC_12) rfl rfl (Nat.le_of_ble_eq_true rfl) d_X5_calculate_53 (k_v (fun σ14 ⟨iσ14, ik14⟩ => ?_)) (fun _ _ _ h => h.elim)
        have kp : Keep [(12, 9), (12, 13), (12, 16), (12, 17)] [63] σ0 σ14 := keep_c kp ik14 (by decide) (by decide)
        exact g_vret hF rfl d_X5_calculate_56 ⟨rfl, rfl, rfl, ⟨iσ14, kp⟩⟩
      · -- not taken at 24
        refine g_aload_n hF d_X5_calculate_27 rfl 2 rfl ?_
        refine g_iconst hF (v := 1) d_X5_calculate_28 (by decide) ?_
        refine g_aload_n hF d_X5_calculate_29 rfl 2 rfl ?_
        refine g_get (v := .ref (r 24)) hF 3 obC_12 (by decide) m_674 rfl d_X5_calculate_30 ?_
        refine g_iload_n hF d_X5_calculate_33 rfl 4 rfl ?_
        refine g_iconst hF (v := 1) d_X5_calculate_34 (by decide) ?_
        refine g_iadd hF d_X5_calculate_35 ?_
        refine g_callSN (As := [.ref (r 24), .int (a2 + 1)]) (rest := [.int 1, .ref (r 12)]) hF (c_at a g r σ2 arC_24 (by decide) (a2 + 1)) (Nat.le_of_ble_eq_true rfl) mS_X12_at nm_1660 rfl rfl (Nat.le_of_ble_eq_true rfl) d_X5_calculate_36 (k_rop (fun r15 hr15 => ?_))
        refine g_callV (As := [.int 1, .int r15]) (rest := []) hF (c_X5_fail a g r σ2 (1 : Int32) r15 iσ2) (Nat.le_of_ble_eq_true rfl) mV_X5_fail m_1656 (recv_ob obC_12) rfl rfl (Nat.le_of_ble_eq_true rfl) d_X5_calculate_39 (k_v (fun σ16 ⟨iσ16, ik16⟩ => ?_)) (fun _ _ _ h => h.elim)
        have kp : Keep [(12, 9), (12, 13), (12, 16), (12, 17)] [63] σ0 σ16 := keep_c kp ik16 (by decide) (by decide)
        refine g_goto hF 56 d_X5_calculate_42 (by decide) ?_
        exact g_vret hF rfl d_X5_calculate_56 ⟨rfl, rfl, rfl, ⟨iσ16, kp⟩⟩
set_option maxHeartbeats 4000000 in
set_option maxRecDepth 100000 in
theorem c_X5_useLibrary (a : Nat → Nat) (g : Nat → Nat → Int32) (r : Nat → Nat) (σ0 : St) (a1 : Int32) (a2 : Int32) (i0 : Inv σ0) (l : Launch) (D : va_G) (cy : Nat → ClassId) : Ct l D cy SC r (EC a g) y_X5_useLibrary (Cond.code y_X5_useLibrary b_X5_useLibrary 4 none) 2 [.ref (r 12), .int a1, .int a2] σ0 Z0 [] (QV (fun σ9 => (Inv σ9 ∧ Keep [(11, 1), (11, 2), (12, 9), (12, 13), (12, 15), (12, 16), (12, 17)] [61, 63] σ0 σ9))) QF := by
  refine Ct_of (EC_ok a g) (by decide) (Nat.le_of_ble_eq_true rfl) (by decide) (fun X hnn hF => ?_)
  show G SC r X σ0 Z0 [] [(0, .ref (r 12)), (1, .int a1), (2, .int a2)] [] 0
  have kp : Keep [(11, 1), (11, 2), (12, 9), (12, 13), (12, 15), (12, 16), (12, 17)] [61, 63] σ0 σ0 := keep_rf
  refine g_iload_n hF d_X5_useLibrary_0 rfl 1 rfl ?_
  refine g_if_ne hF 8 d_X5_useLibrary_1 (by decide) rfl (fun c1_1 => ?_) (fun c1_1 => ?_)
  · -- taken at 1
    refine g_aload_n hF d_X5_useLibrary_8 rfl 0 rfl ?_
    refine g_callV (As := []) (rest := []) hF (c_X5_pop a g r σ0 i0) (Nat.le_of_ble_eq_true rfl) mV_X5_pop m_1681 (recv_ob obC_12) rfl rfl (Nat.le_of_ble_eq_true rfl) d_X5_useLibrary_9 (k_i (fun r2 σ2 ⟨iσ2, ik2⟩ => ?_)) (fun _ _ _ h => h.elim)
    have kp : Keep [(11, 1), (11, 2), (12, 9), (12, 13), (12, 15), (12, 16), (12, 17)] [61, 63] σ0 σ2 := keep_c kp ik2 (by decide) (by decide)
    refine g_istore_n hF [(3, .int r2), (0, .ref (r 12)), (1, .int a1), (2, .int a2)] d_X5_useLibrary_12 rfl hnn (by decide) rfl ?_
    refine g_aload_n hF d_X5_useLibrary_13 rfl 1 rfl ?_
    refine g_iload_n hF d_X5_useLibrary_14 rfl 2 rfl ?_
    refine g_if_ne hF 28 d_X5_useLibrary_15 (by decide) rfl (fun c3_15 => ?_) (fun c3_15 => ?_)
    · -- taken at 15
      refine g_iconst hF (v := 0) d_X5_useLibrary_28 (by decide) ?_
      refine g_callV (As := [.int 0]) (rest := []) hF (c_X5_push a g r σ2 (0 : Int32) iσ2) (Nat.le_of_ble_eq_true rfl) mV_X5_push m_1686 (recv_ob obC_12) rfl rfl (Nat.le_of_ble_eq_true rfl) d_X5_useLibrary_29 (k_v (fun σ4 ⟨iσ4, ik4⟩ => ?_)) (fun _ _ _ h => h.elim)
      have kp : Keep [(11, 1), (11, 2), (12, 9), (12, 13), (12, 15), (12, 16), (12, 17)] [61, 63] σ0 σ4 := keep_c kp ik4 (by decide) (by decide)
      refine g_iload_n hF d_X5_useLibrary_32 rfl 2 rfl ?_
      refine g_iconst hF (v := 1) d_X5_useLibrary_33 (by decide) ?_
      refine g_icmp_ne (yv := 1) hF 48 d_X5_useLibrary_34 (by decide) rfl (by decide) (fun c5_34 => ?_) (fun c5_34 => ?_)
      · -- taken at 34
        refine g_iload_n hF d_X5_useLibrary_48 rfl 2 rfl ?_
        refine g_iconst hF (v := 2) d_X5_useLibrary_49 (by decide) ?_
        refine g_icmp_ne (yv := 2) hF 74 d_X5_useLibrary_50 (by decide) rfl (by decide) (fun c6_50 => ?_) (fun c6_50 => ?_)
        · -- taken at 50
          refine g_iload_n hF d_X5_useLibrary_74 rfl 2 rfl ?_
          refine g_iconst hF (v := 3) d_X5_useLibrary_75 (by decide) ?_
          refine g_icmp_ne (yv := 3) hF 89 d_X5_useLibrary_76 (by decide) rfl (by decide) (fun c7_76 => ?_) (fun c7_76 => ?_)
          · -- taken at 76
            exact g_vret hF rfl d_X5_useLibrary_89 ⟨rfl, rfl, rfl, ⟨iσ4, kp⟩⟩
          · -- not taken at 76
            refine g_aload_n hF d_X5_useLibrary_79 rfl 1 rfl ?_
            refine g_iload_n hF d_X5_useLibrary_80 rfl 0 rfl ?_
            refine g_put (v := r2) hF 15 obC_12 (by decide) m_688 rfl rfl rfl d_X5_useLibrary_81 ?_
            have kp : Keep [(11, 1), (11, 2), (12, 9), (12, 13), (12, 15), (12, 16), (12, 17)] [61, 63] σ0 (upC σ4 12 15 r2) := keep_f kp (by decide)
            refine g_aload_n hF d_X5_useLibrary_84 rfl 1 rfl ?_
            refine g_iconst hF (v := 5) d_X5_useLibrary_85 (by decide) ?_
            refine g_put (v := 5) hF 13 obC_12 (by decide) m_685 rfl rfl rfl d_X5_useLibrary_86 ?_
            have kp : Keep [(11, 1), (11, 2), (12, 9), (12, 13), (12, 15), (12, 16), (12, 17)] [61, 63] σ0 (upC (upC σ4 12 15 r2) 12 13 5) := keep_f kp (by decide)
            have j8 : Inv (upC (upC σ4 12 15 r2) 12 13 5) := ⟨iσ4.1, iσ4.2.1, iσ4.2.2.1, iσ4.2.2.2.1, iσ4.2.2.2.2.1, iσ4.2.2.2.2.2.1, iσ4.2.2.2.2.2.2.1, iσ4.2.2.2.2.2.2.2.1, iσ4.2.2.2.2.2.2.2.2.1, iσ4.2.2.2.2.2.2.2.2.2.1, iσ4.2.2.2.2.2.2.2.2.2.2.1, iσ4.2.2.2.2.2.2.2.2.2.2.2.1, iσ4.2.2.2.2.2.2.2.2.2.2.2.2.1, iσ4.2.2.2.2.2.2.2.2.2.2.2.2.2.1, iσ4.2.2.2.2.2.2.2.2.2.2.2.2.2.2.1, iσ4.2.2.2.2.2.2.2.2.2.2.2.2.2.2.2.1, iσ4.2.2.2.2.2.2.2.2.2.2.2.2.2.2.2.2.1, iσ4.2.2.2.2.2.2.2.2.2.2.2.2.2.2.2.2.2.1, iσ4.2.2.2.2.2.2.2.2.2.2.2.2.2.2.2.2.2.2.1, iσ4.2.2.2.2.2.2.2.2.2.2.2.2.2.2.2.2.2.2.2⟩
            exact g_vret hF rfl d_X5_useLibrary_89 ⟨rfl, rfl, rfl, ⟨j8, kp⟩⟩
        · -- not taken at 50
          refine g_aload_n hF d_X5_useLibrary_53 rfl 1 rfl ?_
          refine g_get (v := .ref (r 11)) hF 2 obC_12 (by decide) m_673 rfl d_X5_useLibrary_54 ?_
          refine g_iload_n hF d_X5_useLibrary_57 rfl 0 rfl ?_
          refine g_callVN (As := [.int r2]) (rest := []) hF (c_X9_print a g r σ4 r2 iσ4) (Nat.le_of_ble_eq_true rfl) mV_X9_print nm_1714 (recv_ob obC_11) rfl rfl (Nat.le_of_ble_eq_true rfl) d_X5_useLibrary_58 (k_i (fun r9 σ9 ⟨hz9, iσ9, ik9⟩ => ?_))
          have kp : Keep [(11, 1), (11, 2), (12, 9), (12, 13), (12, 15), (12, 16), (12, 17)] [61, 63] σ0 σ9 := keep_c kp ik9 (by decide) (by decide)
          refine g_if_ne hF 74 d_X5_useLibrary_61 (by decide) rfl (fun c10_61 => ?_) (fun c10_61 => ?_)
          · -- taken at 61
            refine g_iload_n hF d_X5_useLibrary_74 rfl 2 rfl ?_
            refine g_iconst hF (v := 3) d_X5_useLibrary_75 (by decide) ?_
            refine g_icmp_ne (yv := 3) hF 89 d_X5_useLibrary_76 (by decide) rfl (by decide) (fun c11_76 => ?_) (fun c11_76 => ?_)
            · -- taken at 76
              exact g_vret hF rfl d_X5_useLibrary_89 ⟨rfl, rfl, rfl, ⟨iσ9, kp⟩⟩
            · -- not taken at 76
              refine g_aload_n hF d_X5_useLibrary_79 rfl 1 rfl ?_
              refine g_iload_n hF d_X5_useLibrary_80 rfl 0 rfl ?_
              refine g_put (v := r2) hF 15 obC_12 (by decide) m_688 rfl rfl rfl d_X5_useLibrary_81 ?_
              have kp : Keep [(11, 1), (11, 2), (12, 9), (12, 13), (12, 15), (12, 16), (12, 17)] [61, 63] σ0 (upC σ9 12 15 r2) := keep_f kp (by decide)
              refine g_aload_n hF d_X5_useLibrary_84 rfl 1 rfl ?_
              refine g_iconst hF (v := 5) d_X5_useLibrary_85 (by decide) ?_
              refine g_put (v := 5) hF 13 obC_12 (by decide) m_685 rfl rfl rfl d_X5_useLibrary_86 ?_
              have kp : Keep [(11, 1), (11, 2), (12, 9), (12, 13), (12, 15), (12, 16), (12, 17)] [61, 63] σ0 (upC (upC σ9 12 15 r2) 12 13 5) := keep_f kp (by decide)
              have j12 : Inv (upC (upC σ9 12 15 r2) 12 13 5) := ⟨iσ9.1, iσ9.2.1, iσ9.2.2.1, iσ9.2.2.2.1, iσ9.2.2.2.2.1, iσ9.2.2.2.2.2.1, iσ9.2.2.2.2.2.2.1, iσ9.2.2.2.2.2.2.2.1, iσ9.2.2.2.2.2.2.2.2.1, iσ9.2.2.2.2.2.2.2.2.2.1, iσ9.2.2.2.2.2.2.2.2.2.2.1, iσ9.2.2.2.2.2.2.2.2.2.2.2.1, iσ9.2.2.2.2.2.2.2.2.2.2.2.2.1, iσ9.2.2.2.2.2.2.2.2.2.2.2.2.2.1, iσ9.2.2.2.2.2.2.2.2.2.2.2.2.2.2.1, iσ9.2.2.2.2.2.2.2.2.2.2.2.2.2.2.2.1, iσ9.2.2.2.2.2.2.2.2.2.2.2.2.2.2.2.2.1, iσ9.2.2.2.2.2.2.2.2.2.2.2.2.2.2.2.2.2.1, iσ9.2.2.2.2.2.2.2.2.2.2.2.2.2.2.2.2.2.2.1, iσ9.2.2.2.2.2.2.2.2.2.2.2.2.2.2.2.2.2.2.2⟩
              exact g_vret hF rfl d_X5_useLibrary_89 ⟨rfl, rfl, rfl, ⟨j12, kp⟩⟩
          · -- not taken at 61
            refine g_aload_n hF d_X5_useLibrary_64 rfl 1 rfl ?_
            refine g_bipush hF (v := 6) d_X5_useLibrary_65 (by decide) ?_
            refine g_iload_n hF d_X5_useLibrary_67 rfl 3 rfl ?_
            refine g_callV (As := [.int 6, .int a2]) (rest := []) hF (c_X5_fail a g r σ9 (6 : Int32) a2 iσ9) (Nat.le_of_ble_eq_true rfl) mV_X5_fail m_1656 (recv_ob obC_12) rfl rfl (Nat.le_of_ble_eq_true rfl) d_X5_useLibrary_68 (k_v (fun σ13 ⟨iσ13, ik13⟩ => ?_)) (fun _ _ _ h => h.elim)
            have kp : Keep [(11, 1), (11, 2), (12, 9), (12, 13), (12, 15), (12, 16), (12, 17)] [61, 63] σ0 σ13 := keep_c kp ik13 (by decide) (by decide)
            refine g_goto hF 89 d_X5_useLibrary_71 (by decide) ?_
            exact g_vret hF rfl d_X5_useLibrary_89 ⟨rfl, rfl, rfl, ⟨iσ13, kp⟩⟩
      · -- not taken at 34
        refine g_aload_n hF d_X5_useLibrary_37 rfl 1 rfl ?_
        refine g_get (v := .ref (r 11)) hF 2 obC_12 (by decide) m_673 rfl d_X5_useLibrary_38 ?_
        refine g_iload_n hF d_X5_useLibrary_41 rfl 0 rfl ?_
        refine g_callVN (As := [.int r2]) (rest := []) hF (c_X9_put a g r σ4 r2 iσ4) (Nat.le_of_ble_eq_true rfl) mV_X9_put nm_1710 (recv_ob obC_11) rfl rfl (Nat.le_of_ble_eq_true rfl) d_X5_useLibrary_42 (k_i (fun r14 σ14 ⟨hz14, iσ14, ik14⟩ => ?_))
        have kp : Keep [(11, 1), (11, 2), (12, 9), (12, 13), (12, 15), (12, 16), (12, 17)] [61, 63] σ0 σ14 := keep_c kp ik14 (by decide) (by decide)
        refine g_if_eq hF 64 d_X5_useLibrary_45 (by decide) rfl (fun c15_45 => ?_) (fun c15_45 => ?_)
        · -- taken at 45
          refine g_aload_n hF d_X5_useLibrary_64 rfl 1 rfl ?_
          refine g_bipush hF (v := 6) d_X5_useLibrary_65 (by decide) ?_
          refine g_iload_n hF d_X5_useLibrary_67 rfl 3 rfl ?_
          refine g_callV (As := [.int 6, .int a2]) (rest := []) hF (c_X5_fail a g r σ14 (6 : Int32) a2 iσ14) (Nat.le_of_ble_eq_true rfl) mV_X5_fail m_1656 (recv_ob obC_12) rfl rfl (Nat.le_of_ble_eq_true rfl) d_X5_useLibrary_68 (k_v (fun σ16 ⟨iσ16, ik16⟩ => ?_)) (fun _ _ _ h => h.elim)
          have kp : Keep [(11, 1), (11, 2), (12, 9), (12, 13), (12, 15), (12, 16), (12, 17)] [61, 63] σ0 σ16 := keep_c kp ik16 (by decide) (by decide)
          refine g_goto hF 89 d_X5_useLibrary_71 (by decide) ?_
          exact g_vret hF rfl d_X5_useLibrary_89 ⟨rfl, rfl, rfl, ⟨iσ16, kp⟩⟩
        · -- not taken at 45
          refine g_iload_n hF d_X5_useLibrary_48 rfl 2 rfl ?_
          refine g_iconst hF (v := 2) d_X5_useLibrary_49 (by decide) ?_
          refine g_icmp_ne (yv := 2) hF 74 d_X5_useLibrary_50 (by decide) rfl (by decide) (fun c17_50 => ?_) (fun c17_50 => ?_)
          · -- taken at 50
            refine g_iload_n hF d_X5_useLibrary_74 rfl 2 rfl ?_
            refine g_iconst hF (v := 3) d_X5_useLibrary_75 (by decide) ?_
            refine g_icmp_ne (yv := 3) hF 89 d_X5_useLibrary_76 (by decide) rfl (by decide) (fun c18_76 => ?_) (fun c18_76 => ?_)
            · -- taken at 76
              exact g_vret hF rfl d_X5_useLibrary_89 ⟨rfl, rfl, rfl, ⟨iσ14, kp⟩⟩
            · -- not taken at 76
              refine g_aload_n hF d_X5_useLibrary_79 rfl 1 rfl ?_
              refine g_iload_n hF d_X5_useLibrary_80 rfl 0 rfl ?_
              refine g_put (v := r2) hF 15 obC_12 (by decide) m_688 rfl rfl rfl d_X5_useLibrary_81 ?_
              have kp : Keep [(11, 1), (11, 2), (12, 9), (12, 13), (12, 15), (12, 16), (12, 17)] [61, 63] σ0 (upC σ14 12 15 r2) := keep_f kp (by decide)
              refine g_aload_n hF d_X5_useLibrary_84 rfl 1 rfl ?_
              refine g_iconst hF (v := 5) d_X5_useLibrary_85 (by decide) ?_
              refine g_put (v := 5) hF 13 obC_12 (by decide) m_685 rfl rfl rfl d_X5_useLibrary_86 ?_
              have kp : Keep [(11, 1), (11, 2), (12, 9), (12, 13), (12, 15), (12, 16), (12, 17)] [61, 63] σ0 (upC (upC σ14 12 15 r2) 12 13 5) := keep_f kp (by decide)
              have j19 : Inv (upC (upC σ14 12 15 r2) 12 13 5) := ⟨iσ14.1, iσ14.2.1, iσ14.2.2.1, iσ14.2.2.2.1, iσ14.2.2.2.2.1, iσ14.2.2.2.2.2.1, iσ14.2.2.2.2.2.2.1, iσ14.2.2.2.2.2.2.2.1, iσ14.2.2.2.2.2.2.2.2.1, iσ14.2.2.2.2.2.2.2.2.2.1, iσ14.2.2.2.2.2.2.2.2.2.2.1, iσ14.2.2.2.2.2.2.2.2.2.2.2.1, iσ14.2.2.2.2.2.2.2.2.2.2.2.2.1, iσ14.2.2.2.2.2.2.2.2.2.2.2.2.2.1, iσ14.2.2.2.2.2.2.2.2.2.2.2.2.2.2.1, iσ14.2.2.2.2.2.2.2.2.2.2.2.2.2.2.2.1, iσ14.2.2.2.2.2.2.2.2.2.2.2.2.2.2.2.2.1, iσ14.2.2.2.2.2.2.2.2.2.2.2.2.2.2.2.2.2.1, iσ14.2.2.2.2.2.2.2.2.2.2.2.2.2.2.2.2.2.2.1, iσ14.2.2.2.2.2.2.2.2.2.2.2.2.2.2.2.2.2.2.2⟩
              exact g_vret hF rfl d_X5_useLibrary_89 ⟨rfl, rfl, rfl, ⟨j19, kp⟩⟩
          · -- not taken at 50
            refine g_aload_n hF d_X5_useLibrary_53 rfl 1 rfl ?_
            refine g_get (v := .ref (r 11)) hF 2 obC_12 (by decide) m_673 rfl d_X5_useLibrary_54 ?_
            refine g_iload_n hF d_X5_useLibrary_57 rfl 0 rfl ?_
            refine g_callVN (As := [.int r2]) (rest := []) hF (c_X9_print a g r σ14 r2 iσ14) (Nat.le_of_ble_eq_true rfl) mV_X9_print nm_1714 (recv_ob obC_11) rfl rfl (Nat.le_of_ble_eq_true rfl) d_X5_useLibrary_58 (k_i (fun r20 σ20 ⟨hz20, iσ20, ik20⟩ => ?_))
            have kp : Keep [(11, 1), (11, 2), (12, 9), (12, 13), (12, 15), (12, 16), (12, 17)] [61, 63] σ0 σ20 := keep_c kp ik20 (by decide) (by decide)
            refine g_if_ne hF 74 d_X5_useLibrary_61 (by decide) rfl (fun c21_61 => ?_) (fun c21_61 => ?_)
            · -- taken at 61
              refine g_iload_n hF d_X5_useLibrary_74 rfl 2 rfl ?_
              refine g_iconst hF (v := 3) d_X5_useLibrary_75 (by decide) ?_
              refine g_icmp_ne (yv := 3) hF 89 d_X5_useLibrary_76 (by decide) rfl (by decide) (fun c22_76 => ?_) (fun c22_76 => ?_)
              · -- taken at 76
                exact g_vret hF rfl d_X5_useLibrary_89 ⟨rfl, rfl, rfl, ⟨iσ20, kp⟩⟩
              · -- not taken at 76
                refine g_aload_n hF d_X5_useLibrary_79 rfl 1 rfl ?_
                refine g_iload_n hF d_X5_useLibrary_80 rfl 0 rfl ?_
                refine g_put (v := r2) hF 15 obC_12 (by decide) m_688 rfl rfl rfl d_X5_useLibrary_81 ?_
                have kp : Keep [(11, 1), (11, 2), (12, 9), (12, 13), (12, 15), (12, 16), (12, 17)] [61, 63] σ0 (upC σ20 12 15 r2) := keep_f kp (by decide)
                refine g_aload_n hF d_X5_useLibrary_84 rfl 1 rfl ?_
                refine g_iconst hF (v := 5) d_X5_useLibrary_85 (by decide) ?_
                refine g_put (v := 5) hF 13 obC_12 (by decide) m_685 rfl rfl rfl d_X5_useLibrary_86 ?_
                have kp : Keep [(11, 1), (11, 2), (12, 9), (12, 13), (12, 15), (12, 16), (12, 17)] [61, 63] σ0 (upC (upC σ20 12 15 r2) 12 13 5) := keep_f kp (by decide)
                have j23 : Inv (upC (upC σ20 12 15 r2) 12 13 5) := ⟨iσ20.1, iσ20.2.1, iσ20.2.2.1, iσ20.2.2.2.1, iσ20.2.2.2.2.1, iσ20.2.2.2.2.2.1, iσ20.2.2.2.2.2.2.1, iσ20.2.2.2.2.2.2.2.1, iσ20.2.2.2.2.2.2.2.2.1, iσ20.2.2.2.2.2.2.2.2.2.1, iσ20.2.2.2.2.2.2.2.2.2.2.1, iσ20.2.2.2.2.2.2.2.2.2.2.2.1, iσ20.2.2.2.2.2.2.2.2.2.2.2.2.1, iσ20.2.2.2.2.2.2.2.2.2.2.2.2.2.1, iσ20.2.2.2.2.2.2.2.2.2.2.2.2.2.2.1, iσ20.2.2.2.2.2.2.2.2.2.2.2.2.2.2.2.1, iσ20.2.2.2.2.2.2.2.2.2.2.2.2.2.2.2.2.1, iσ20.2.2.2.2.2.2.2.2.2.2.2.2.2.2.2.2.2.1, iσ20.2.2.2.2.2.2.2.2.2.2.2.2.2.2.2.2.2.2.1, iσ20.2.2.2.2.2.2.2.2.2.2.2.2.2.2.2.2.2.2.2⟩
                exact g_vret hF rfl d_X5_useLibrary_89 ⟨rfl, rfl, rfl, ⟨j23, kp⟩⟩
            · -- not taken at 61
              refine g_aload_n hF d_X5_useLibrary_64 rfl 1 rfl ?_
              refine g_bipush hF (v := 6) d_X5_useLibrary_65 (by decide) ?_
              refine g_iload_n hF d_X5_useLibrary_67 rfl 3 rfl ?_
              refine g_callV (As := [.int 6, .int a2]) (rest := []) hF (c_X5_fail a g r σ20 (6 : Int32) a2 iσ20) (Nat.le_of_ble_eq_true rfl) mV_X5_fail m_1656 (recv_ob obC_12) rfl rfl (Nat.le_of_ble_eq_true rfl) d_X5_useLibrary_68 (k_v (fun σ24 ⟨iσ24, ik24⟩ => ?_)) (fun _ _ _ h => h.elim)
              have kp : Keep [(11, 1), (11, 2), (12, 9), (12, 13), (12, 15), (12, 16), (12, 17)] [61, 63] σ0 σ24 := keep_c kp ik24 (by decide) (by decide)
              refine g_goto hF 89 d_X5_useLibrary_71 (by decide) ?_
              exact g_vret hF rfl d_X5_useLibrary_89 ⟨rfl, rfl, rfl, ⟨iσ24, kp⟩⟩
    · -- not taken at 15
      refine g_aload_n hF d_X5_useLibrary_18 rfl 1 rfl ?_
      refine g_get (v := .ref (r 11)) hF 2 obC_12 (by decide) m_673 rfl d_X5_useLibrary_19 ?_
      refine g_callVN (As := []) (rest := [.ref (r 12)]) hF (c_X9_next a g r σ2 iσ2) (Nat.le_of_ble_eq_true rfl) mV_X9_next nm_1706 (recv_ob obC_11) rfl rfl (Nat.le_of_ble_eq_true rfl) d_X5_useLibrary_22 (k_i (fun r25 σ25 ⟨iσ25, ik25⟩ => ?_))
      have kp : Keep [(11, 1), (11, 2), (12, 9), (12, 13), (12, 15), (12, 16), (12, 17)] [61, 63] σ0 σ25 := keep_c kp ik25 (by decide) (by decide)
      refine g_goto hF 29 d_X5_useLibrary_25 (by decide) ?_
      refine g_callV (As := [.int r25]) (rest := []) hF (c_X5_push a g r σ25 r25 iσ25) (Nat.le_of_ble_eq_true rfl) mV_X5_push m_1686 (recv_ob obC_12) rfl rfl (Nat.le_of_ble_eq_true rfl) d_X5_useLibrary_29 (k_v (fun σ26 ⟨iσ26, ik26⟩ => ?_)) (fun _ _ _ h => h.elim)
      have kp : Keep [(11, 1), (11, 2), (12, 9), (12, 13), (12, 15), (12, 16), (12, 17)] [61, 63] σ0 σ26 := keep_c kp ik26 (by decide) (by decide)
      refine g_iload_n hF d_X5_useLibrary_32 rfl 2 rfl ?_
      refine g_iconst hF (v := 1) d_X5_useLibrary_33 (by decide) ?_
      refine g_icmp_ne (yv := 1) hF 48 d_X5_useLibrary_34 (by decide) rfl (by decide) (fun c27_34 => ?_) (fun c27_34 => ?_)
      · -- taken at 34
        refine g_iload_n hF d_X5_useLibrary_48 rfl 2 rfl ?_
        refine g_iconst hF (v := 2) d_X5_useLibrary_49 (by decide) ?_
        refine g_icmp_ne (yv := 2) hF 74 d_X5_useLibrary_50 (by decide) rfl (by decide) (fun c28_50 => ?_) (fun c28_50 => ?_)
        · -- taken at 50
          refine g_iload_n hF d_X5_useLibrary_74 rfl 2 rfl ?_
          refine g_iconst hF (v := 3) d_X5_useLibrary_75 (by decide) ?_
          refine g_icmp_ne (yv := 3) hF 89 d_X5_useLibrary_76 (by decide) rfl (by decide) (fun c29_76 => ?_) (fun c29_76 => ?_)
          · -- taken at 76
            exact g_vret hF rfl d_X5_useLibrary_89 ⟨rfl, rfl, rfl, ⟨iσ26, kp⟩⟩
          · -- not taken at 76
            refine g_aload_n hF d_X5_useLibrary_79 rfl 1 rfl ?_
            refine g_iload_n hF d_X5_useLibrary_80 rfl 0 rfl ?_
            refine g_put (v := r2) hF 15 obC_12 (by decide) m_688 rfl rfl rfl d_X5_useLibrary_81 ?_
            have kp : Keep [(11, 1), (11, 2), (12, 9), (12, 13), (12, 15), (12, 16), (12, 17)] [61, 63] σ0 (upC σ26 12 15 r2) := keep_f kp (by decide)
            refine g_aload_n hF d_X5_useLibrary_84 rfl 1 rfl ?_
            refine g_iconst hF (v := 5) d_X5_useLibrary_85 (by decide) ?_
            refine g_put (v := 5) hF 13 obC_12 (by decide) m_685 rfl rfl rfl d_X5_useLibrary_86 ?_
            have kp : Keep [(11, 1), (11, 2), (12, 9), (12, 13), (12, 15), (12, 16), (12, 17)] [61, 63] σ0 (upC (upC σ26 12 15 r2) 12 13 5) := keep_f kp (by decide)
            have j30 : Inv (upC (upC σ26 12 15 r2) 12 13 5) := ⟨iσ26.1, iσ26.2.1, iσ26.2.2.1, iσ26.2.2.2.1, iσ26.2.2.2.2.1, iσ26.2.2.2.2.2.1, iσ26.2.2.2.2.2.2.1, iσ26.2.2.2.2.2.2.2.1, iσ26.2.2.2.2.2.2.2.2.1, iσ26.2.2.2.2.2.2.2.2.2.1, iσ26.2.2.2.2.2.2.2.2.2.2.1, iσ26.2.2.2.2.2.2.2.2.2.2.2.1, iσ26.2.2.2.2.2.2.2.2.2.2.2.2.1, iσ26.2.2.2.2.2.2.2.2.2.2.2.2.2.1, iσ26.2.2.2.2.2.2.2.2.2.2.2.2.2.2.1, iσ26.2.2.2.2.2.2.2.2.2.2.2.2.2.2.2.1, iσ26.2.2.2.2.2.2.2.2.2.2.2.2.2.2.2.2.1, iσ26.2.2.2.2.2.2.2.2.2.2.2.2.2.2.2.2.2.1, iσ26.2.2.2.2.2.2.2.2.2.2.2.2.2.2.2.2.2.2.1, iσ26.2.2.2.2.2.2.2.2.2.2.2.2.2.2.2.2.2.2.2⟩
            exact g_vret hF rfl d_X5_useLibrary_89 ⟨rfl, rfl, rfl, ⟨j30, kp⟩⟩
        · -- not taken at 50
          refine g_aload_n hF d_X5_useLibrary_53 rfl 1 rfl ?_
          refine g_get (v := .ref (r 11)) hF 2 obC_12 (by decide) m_673 rfl d_X5_useLibrary_54 ?_
          refine g_iload_n hF d_X5_useLibrary_57 rfl 0 rfl ?_
          refine g_callVN (As := [.int r2]) (rest := []) hF (c_X9_print a g r σ26 r2 iσ26) (Nat.le_of_ble_eq_true rfl) mV_X9_print nm_1714 (recv_ob obC_11) rfl rfl (Nat.le_of_ble_eq_true rfl) d_X5_useLibrary_58 (k_i (fun r31 σ31 ⟨hz31, iσ31, ik31⟩ => ?_))
          have kp : Keep [(11, 1), (11, 2), (12, 9), (12, 13), (12, 15), (12, 16), (12, 17)] [61, 63] σ0 σ31 := keep_c kp ik31 (by decide) (by decide)
          refine g_if_ne hF 74 d_X5_useLibrary_61 (by decide) rfl (fun c32_61 => ?_) (fun c32_61 => ?_)
          · -- taken at 61
            refine g_iload_n hF d_X5_useLibrary_74 rfl 2 rfl ?_
            refine g_iconst hF (v := 3) d_X5_useLibrary_75 (by decide) ?_
            refine g_icmp_ne (yv := 3) hF 89 d_X5_useLibrary_76 (by decide) rfl (by decide) (fun c33_76 => ?_) (fun c33_76 => ?_)
            · -- taken at 76
              exact g_vret hF rfl d_X5_useLibrary_89 ⟨rfl, rfl, rfl, ⟨iσ31, kp⟩⟩
            · -- not taken at 76
              refine g_aload_n hF d_X5_useLibrary_79 rfl 1 rfl ?_
              refine g_iload_n hF d_X5_useLibrary_80 rfl 0 rfl ?_
              refine g_put (v := r2) hF 15 obC_12 (by decide) m_688 rfl rfl rfl d_X5_useLibrary_81 ?_
              have kp : Keep [(11, 1), (11, 2), (12, 9), (12, 13), (12, 15), (12, 16), (12, 17)] [61, 63] σ0 (upC σ31 12 15 r2) := keep_f kp (by decide)
              refine g_aload_n hF d_X5_useLibrary_84 rfl 1 rfl ?_
              refine g_iconst hF (v := 5) d_X5_useLibrary_85 (by decide) ?_
              refine g_put (v := 5) hF 13 obC_12 (by decide) m_685 rfl rfl rfl d_X5_useLibrary_86 ?_
              have kp : Keep [(11, 1), (11, 2), (12, 9), (12, 13), (12, 15), (12, 16), (12, 17)] [61, 63] σ0 (upC (upC σ31 12 15 r2) 12 13 5) := keep_f kp (by decide)
              have j34 : Inv (upC (upC σ31 12 15 r2) 12 13 5) := ⟨iσ31.1, iσ31.2.1, iσ31.2.2.1, iσ31.2.2.2.1, iσ31.2.2.2.2.1, iσ31.2.2.2.2.2.1, iσ31.2.2.2.2.2.2.1, iσ31.2.2.2.2.2.2.2.1, iσ31.2.2.2.2.2.2.2.2.1, iσ31.2.2.2.2.2.2.2.2.2.1, iσ31.2.2.2.2.2.2.2.2.2.2.1, iσ31.2.2.2.2.2.2.2.2.2.2.2.1, iσ31.2.2.2.2.2.2.2.2.2.2.2.2.1, iσ31.2.2.2.2.2.2.2.2.2.2.2.2.2.1, iσ31.2.2.2.2.2.2.2.2.2.2.2.2.2.2.1, iσ31.2.2.2.2.2.2.2.2.2.2.2.2.2.2.2.1, iσ31.2.2.2.2.2.2.2.2.2.2.2.2.2.2.2.2.1, iσ31.2.2.2.2.2.2.2.2.2.2.2.2.2.2.2.2.2.1, iσ31.2.2.2.2.2.2.2.2.2.2.2.2.2.2.2.2.2.2.1, iσ31.2.2.2.2.2.2.2.2.2.2.2.2.2.2.2.2.2.2.2⟩
              exact g_vret hF rfl d_X5_useLibrary_89 ⟨rfl, rfl, rfl, ⟨j34, kp⟩⟩
          · -- not taken at 61
            refine g_aload_n hF d_X5_useLibrary_64 rfl 1 rfl ?_
            refine g_bipush hF (v := 6) d_X5_useLibrary_65 (by decide) ?_
            refine g_iload_n hF d_X5_useLibrary_67 rfl 3 rfl ?_
            refine g_callV (As := [.int 6, .int a2]) (rest := []) hF (c_X5_fail a g r σ31 (6 : Int32) a2 iσ31) (Nat.le_of_ble_eq_true rfl) mV_X5_fail m_1656 (recv_ob obC_12) rfl rfl (Nat.le_of_ble_eq_true rfl) d_X5_useLibrary_68 (k_v (fun σ35 ⟨iσ35, ik35⟩ => ?_)) (fun _ _ _ h => h.elim)
            have kp : Keep [(11, 1), (11, 2), (12, 9), (12, 13), (12, 15), (12, 16), (12, 17)] [61, 63] σ0 σ35 := keep_c kp ik35 (by decide) (by decide)
            refine g_goto hF 89 d_X5_useLibrary_71 (by decide) ?_
            exact g_vret hF rfl d_X5_useLibrary_89 ⟨rfl, rfl, rfl, ⟨iσ35, kp⟩⟩
      · -- not taken at 34
        refine g_aload_n hF d_X5_useLibrary_37 rfl 1 rfl ?_
        refine g_get (v := .ref (r 11)) hF 2 obC_12 (by decide) m_673 rfl d_X5_useLibrary_38 ?_
        refine g_iload_n hF d_X5_useLibrary_41 rfl 0 rfl ?_
        refine g_callVN (As := [.int r2]) (rest := []) hF (c_X9_put a g r σ26 r2 iσ26) (Nat.le_of_ble_eq_true rfl) mV_X9_put nm_1710 (recv_ob obC_11) rfl rfl (Nat.le_of_ble_eq_true rfl) d_X5_useLibrary_42 (k_i (fun r36 σ36 ⟨hz36, iσ36, ik36⟩ => ?_))
        have kp : Keep [(11, 1), (11, 2), (12, 9), (12, 13), (12, 15), (12, 16), (12, 17)] [61, 63] σ0 σ36 := keep_c kp ik36 (by decide) (by decide)
        refine g_if_eq hF 64 d_X5_useLibrary_45 (by decide) rfl (fun c37_45 => ?_) (fun c37_45 => ?_)
        · -- taken at 45
          refine g_aload_n hF d_X5_useLibrary_64 rfl 1 rfl ?_
          refine g_bipush hF (v := 6) d_X5_useLibrary_65 (by decide) ?_
          refine g_iload_n hF d_X5_useLibrary_67 rfl 3 rfl ?_
          refine g_callV (As := [.int 6, .int a2]) (rest := []) hF (c_X5_fail a g r σ36 (6 : Int32) a2 iσ36) (Nat.le_of_ble_eq_true rfl) mV_X5_fail m_1656 (recv_ob obC_12) rfl rfl (Nat.le_of_ble_eq_true rfl) d_X5_useLibrary_68 (k_v (fun σ38 ⟨iσ38, ik38⟩ => ?_)) (fun _ _ _ h => h.elim)
          have kp : Keep [(11, 1), (11, 2), (12, 9), (12, 13), (12, 15), (12, 16), (12, 17)] [61, 63] σ0 σ38 := keep_c kp ik38 (by decide) (by decide)
          refine g_goto hF 89 d_X5_useLibrary_71 (by decide) ?_
          exact g_vret hF rfl d_X5_useLibrary_89 ⟨rfl, rfl, rfl, ⟨iσ38, kp⟩⟩
        · -- not taken at 45
          refine g_iload_n hF d_X5_useLibrary_48 rfl 2 rfl ?_
          refine g_iconst hF (v := 2) d_X5_useLibrary_49 (by decide) ?_
          refine g_icmp_ne (yv := 2) hF 74 d_X5_useLibrary_50 (by decide) rfl (by decide) (fun c39_50 => ?_) (fun c39_50 => ?_)
          · -- taken at 50
            refine g_iload_n hF d_X5_useLibrary_74 rfl 2 rfl ?_
            refine g_iconst hF (v := 3) d_X5_useLibrary_75 (by decide) ?_
            refine g_icmp_ne (yv := 3) hF 89 d_X5_useLibrary_76 (by decide) rfl (by decide) (fun c40_76 => ?_) (fun c40_76 => ?_)
            · -- taken at 76
              exact g_vret hF rfl d_X5_useLibrary_89 ⟨rfl, rfl, rfl, ⟨iσ36, kp⟩⟩
            · -- not taken at 76
              refine g_aload_n hF d_X5_useLibrary_79 rfl 1 rfl ?_
              refine g_iload_n hF d_X5_useLibrary_80 rfl 0 rfl ?_
              refine g_put (v := r2) hF 15 obC_12 (by decide) m_688 rfl rfl rfl d_X5_useLibrary_81 ?_
              have kp : Keep [(11, 1), (11, 2), (12, 9), (12, 13), (12, 15), (12, 16), (12, 17)] [61, 63] σ0 (upC σ36 12 15 r2) := keep_f kp (by decide)
              refine g_aload_n hF d_X5_useLibrary_84 rfl 1 rfl ?_
              refine g_iconst hF (v := 5) d_X5_useLibrary_85 (by decide) ?_
              refine g_put (v := 5) hF 13 obC_12 (by decide) m_685 rfl rfl rfl d_X5_useLibrary_86 ?_
              have kp : Keep [(11, 1), (11, 2), (12, 9), (12, 13), (12, 15), (12, 16), (12, 17)] [61, 63] σ0 (upC (upC σ36 12 15 r2) 12 13 5) := keep_f kp (by decide)
              have j41 : Inv (upC (upC σ36 12 15 r2) 12 13 5) := ⟨iσ36.1, iσ36.2.1, iσ36.2.2.1, iσ36.2.2.2.1, iσ36.2.2.2.2.1, iσ36.2.2.2.2.2.1, iσ36.2.2.2.2.2.2.1, iσ36.2.2.2.2.2.2.2.1, iσ36.2.2.2.2.2.2.2.2.1, iσ36.2.2.2.2.2.2.2.2.2.1, iσ36.2.2.2.2.2.2.2.2.2.2.1, iσ36.2.2.2.2.2.2.2.2.2.2.2.1, iσ36.2.2.2.2.2.2.2.2.2.2.2.2.1, iσ36.2.2.2.2.2.2.2.2.2.2.2.2.2.1, iσ36.2.2.2.2.2.2.2.2.2.2.2.2.2.2.1, iσ36.2.2.2.2.2.2.2.2.2.2.2.2.2.2.2.1, iσ36.2.2.2.2.2.2.2.2.2.2.2.2.2.2.2.2.1, iσ36.2.2.2.2.2.2.2.2.2.2.2.2.2.2.2.2.2.1, iσ36.2.2.2.2.2.2.2.2.2.2.2.2.2.2.2.2.2.2.1, iσ36.2.2.2.2.2.2.2.2.2.2.2.2.2.2.2.2.2.2.2⟩
              exact g_vret hF rfl d_X5_useLibrary_89 ⟨rfl, rfl, rfl, ⟨j41, kp⟩⟩
          · -- not taken at 50
            refine g_aload_n hF d_X5_useLibrary_53 rfl 1 rfl ?_
            refine g_get (v := .ref (r 11)) hF 2 obC_12 (by decide) m_673 rfl d_X5_useLibrary_54 ?_
            refine g_iload_n hF d_X5_useLibrary_57 rfl 0 rfl ?_
            refine g_callVN (As := [.int r2]) (rest := []) hF (c_X9_print a g r σ36 r2 iσ36) (Nat.le_of_ble_eq_true rfl) mV_X9_print nm_1714 (recv_ob obC_11) rfl rfl (Nat.le_of_ble_eq_true rfl) d_X5_useLibrary_58 (k_i (fun r42 σ42 ⟨hz42, iσ42, ik42⟩ => ?_))
            have kp : Keep [(11, 1), (11, 2), (12, 9), (12, 13), (12, 15), (12, 16), (12, 17)] [61, 63] σ0 σ42 := keep_c kp ik42 (by decide) (by decide)
            refine g_if_ne hF 74 d_X5_useLibrary_61 (by decide) rfl (fun c43_61 => ?_) (fun c43_61 => ?_)
            · -- taken at 61
              refine g_iload_n hF d_X5_useLibrary_74 rfl 2 rfl ?_
              refine g_iconst hF (v := 3) d_X5_useLibrary_75 (by decide) ?_
              refine g_icmp_ne (yv := 3) hF 89 d_X5_useLibrary_76 (by decide) rfl (by decide) (fun c44_76 => ?_) (fun c44_76 => ?_)
              · -- taken at 76
                exact g_vret hF rfl d_X5_useLibrary_89 ⟨rfl, rfl, rfl, ⟨iσ42, kp⟩⟩
              · -- not taken at 76
                refine g_aload_n hF d_X5_useLibrary_79 rfl 1 rfl ?_
                refine g_iload_n hF d_X5_useLibrary_80 rfl 0 rfl ?_
                refine g_put (v := r2) hF 15 obC_12 (by decide) m_688 rfl rfl rfl d_X5_useLibrary_81 ?_
                have kp : Keep [(11, 1), (11, 2), (12, 9), (12, 13), (12, 15), (12, 16), (12, 17)] [61, 63] σ0 (upC σ42 12 15 r2) := keep_f kp (by decide)
                refine g_aload_n hF d_X5_useLibrary_84 rfl 1 rfl ?_
                refine g_iconst hF (v := 5) d_X5_useLibrary_85 (by decide) ?_
                refine g_put (v := 5) hF 13 obC_12 (by decide) m_685 rfl rfl rfl d_X5_useLibrary_86 ?_
                have kp : Keep [(11, 1), (11, 2), (12, 9), (12, 13), (12, 15), (12, 16), (12, 17)] [61, 63] σ0 (upC (upC σ42 12 15 r2) 12 13 5) := keep_f kp (by decide)
                have j45 : Inv (upC (upC σ42 12 15 r2) 12 13 5) := ⟨iσ42.1, iσ42.2.1, iσ42.2.2.1, iσ42.2.2.2.1, iσ42.2.2.2.2.1, iσ42.2.2.2.2.2.1, iσ42.2.2.2.2.2.2.1, iσ42.2.2.2.2.2.2.2.1, iσ42.2.2.2.2.2.2.2.2.1, iσ42.2.2.2.2.2.2.2.2.2.1, iσ42.2.2.2.2.2.2.2.2.2.2.1, iσ42.2.2.2.2.2.2.2.2.2.2.2.1, iσ42.2.2.2.2.2.2.2.2.2.2.2.2.1, iσ42.2.2.2.2.2.2.2.2.2.2.2.2.2.1, iσ42.2.2.2.2.2.2.2.2.2.2.2.2.2.2.1, iσ42.2.2.2.2.2.2.2.2.2.2.2.2.2.2.2.1, iσ42.2.2.2.2.2.2.2.2.2.2.2.2.2.2.2.2.1, iσ42.2.2.2.2.2.2.2.2.2.2.2.2.2.2.2.2.2.1, iσ42.2.2.2.2.2.2.2.2.2.2.2.2.2.2.2.2.2.2.1, iσ42.2.2.2.2.2.2.2.2.2.2.2.2.2.2.2.2.2.2.2⟩
                exact g_vret hF rfl d_X5_useLibrary_89 ⟨rfl, rfl, rfl, ⟨j45, kp⟩⟩
            · -- not taken at 61
              refine g_aload_n hF d_X5_useLibrary_64 rfl 1 rfl ?_
              refine g_bipush hF (v := 6) d_X5_useLibrary_65 (by decide) ?_
              refine g_iload_n hF d_X5_useLibrary_67 rfl 3 rfl ?_
              refine g_callV (As := [.int 6, .int a2]) (rest := []) hF (c_X5_fail a g r σ42 (6 : Int32) a2 iσ42) (Nat.le_of_ble_eq_true rfl) mV_X5_fail m_1656 (recv_ob obC_12) rfl rfl (Nat.le_of_ble_eq_true rfl) d_X5_useLibrary_68 (k_v (fun σ46 ⟨iσ46, ik46⟩ => ?_)) (fun _ _ _ h => h.elim)
              have kp : Keep [(11, 1), (11, 2), (12, 9), (12, 13), (12, 15), (12, 16), (12, 17)] [61, 63] σ0 σ46 := keep_c kp ik46 (by decide) (by decide)
              refine g_goto hF 89 d_X5_useLibrary_71 (by decide) ?_
              exact g_vret hF rfl d_X5_useLibrary_89 ⟨rfl, rfl, rfl, ⟨iσ46, kp⟩⟩
  · -- not taken at 1
    refine g_iconst hF (v := 0) d_X5_useLibrary_4 (by decide) ?_
    refine g_goto hF 12 d_X5_useLibrary_5 (by decide) ?_
    refine g_istore_n hF [(3, .int 0), (0, .ref (r 12)), (1, .int a1), (2, .int a2)] d_X5_useLibrary_12 rfl hnn (by decide) rfl ?_
    refine g_aload_n hF d_X5_useLibrary_13 rfl 1 rfl ?_
    refine g_iload_n hF d_X5_useLibrary_14 rfl 2 rfl ?_
    refine g_if_ne hF 28 d_X5_useLibrary_15 (by decide) rfl (fun c47_15 => ?_) (fun c47_15 => ?_)
    · -- taken at 15
      refine g_iconst hF (v := 0) d_X5_useLibrary_28 (by decide) ?_
      refine g_callV (As := [.int 0]) (rest := []) hF (c_X5_push a g r σ0 (0 : Int32) i0) (Nat.le_of_ble_eq_true rfl) mV_X5_push m_1686 (recv_ob obC_12) rfl rfl (Nat.le_of_ble_eq_true rfl) d_X5_useLibrary_29 (k_v (fun σ48 ⟨iσ48, ik48⟩ => ?_)) (fun _ _ _ h => h.elim)
      have kp : Keep [(11, 1), (11, 2), (12, 9), (12, 13), (12, 15), (12, 16), (12, 17)] [61, 63] σ0 σ48 := keep_c kp ik48 (by decide) (by decide)
      refine g_iload_n hF d_X5_useLibrary_32 rfl 2 rfl ?_
      refine g_iconst hF (v := 1) d_X5_useLibrary_33 (by decide) ?_
      refine g_icmp_ne (yv := 1) hF 48 d_X5_useLibrary_34 (by decide) rfl (by decide) (fun c49_34 => ?_) (fun c49_34 => ?_)
      · -- taken at 34
        refine g_iload_n hF d_X5_useLibrary_48 rfl 2 rfl ?_
        refine g_iconst hF (v := 2) d_X5_useLibrary_49 (by decide) ?_
        refine g_icmp_ne (yv := 2) hF 74 d_X5_useLibrary_50 (by decide) rfl (by decide) (fun c50_50 => ?_) (fun c50_50 => ?_)
        · -- taken at 50
          refine g_iload_n hF d_X5_useLibrary_74 rfl 2 rfl ?_
          refine g_iconst hF (v := 3) d_X5_useLibrary_75 (by decide) ?_
          refine g_icmp_ne (yv := 3) hF 89 d_X5_useLibrary_76 (by decide) rfl (by decide) (fun c51_76 => ?_) (fun c51_76 => ?_)
          · -- taken at 76
            exact g_vret hF rfl d_X5_useLibrary_89 ⟨rfl, rfl, rfl, ⟨iσ48, kp⟩⟩
          · -- not taken at 76
            refine g_aload_n hF d_X5_useLibrary_79 rfl 1 rfl ?_
            refine g_iload_n hF d_X5_useLibrary_80 rfl 0 rfl ?_
            refine g_put (v := 0) hF 15 obC_12 (by decide) m_688 rfl rfl rfl d_X5_useLibrary_81 ?_
            have kp : Keep [(11, 1), (11, 2), (12, 9), (12, 13), (12, 15), (12, 16), (12, 17)] [61, 63] σ0 (upC σ48 12 15 0) := keep_f kp (by decide)
            refine g_aload_n hF d_X5_useLibrary_84 rfl 1 rfl ?_
            refine g_iconst hF (v := 5) d_X5_useLibrary_85 (by decide) ?_
            refine g_put (v := 5) hF 13 obC_12 (by decide) m_685 rfl rfl rfl d_X5_useLibrary_86 ?_
            have kp : Keep [(11, 1), (11, 2), (12, 9), (12, 13), (12, 15), (12, 16), (12, 17)] [61, 63] σ0 (upC (upC σ48 12 15 0) 12 13 5) := keep_f kp (by decide)
            have j52 : Inv (upC (upC σ48 12 15 0) 12 13 5) := ⟨iσ48.1, iσ48.2.1, iσ48.2.2.1, iσ48.2.2.2.1, iσ48.2.2.2.2.1, iσ48.2.2.2.2.2.1, iσ48.2.2.2.2.2.2.1, iσ48.2.2.2.2.2.2.2.1, iσ48.2.2.2.2.2.2.2.2.1, iσ48.2.2.2.2.2.2.2.2.2.1, iσ48.2.2.2.2.2.2.2.2.2.2.1, iσ48.2.2.2.2.2.2.2.2.2.2.2.1, iσ48.2.2.2.2.2.2.2.2.2.2.2.2.1, iσ48.2.2.2.2.2.2.2.2.2.2.2.2.2.1, iσ48.2.2.2.2.2.2.2.2.2.2.2.2.2.2.1, iσ48.2.2.2.2.2.2.2.2.2.2.2.2.2.2.2.1, iσ48.2.2.2.2.2.2.2.2.2.2.2.2.2.2.2.2.1, iσ48.2.2.2.2.2.2.2.2.2.2.2.2.2.2.2.2.2.1, iσ48.2.2.2.2.2.2.2.2.2.2.2.2.2.2.2.2.2.2.1, iσ48.2.2.2.2.2.2.2.2.2.2.2.2.2.2.2.2.2.2.2⟩
            exact g_vret hF rfl d_X5_useLibrary_89 ⟨rfl, rfl, rfl, ⟨j52, kp⟩⟩
        · -- not taken at 50
          refine g_aload_n hF d_X5_useLibrary_53 rfl 1 rfl ?_
          refine g_get (v := .ref (r 11)) hF 2 obC_12 (by decide) m_673 rfl d_X5_useLibrary_54 ?_
          refine g_iload_n hF d_X5_useLibrary_57 rfl 0 rfl ?_
          refine g_callVN (As := [.int 0]) (rest := []) hF (c_X9_print a g r σ48 (0 : Int32) iσ48) (Nat.le_of_ble_eq_true rfl) mV_X9_print nm_1714 (recv_ob obC_11) rfl rfl (Nat.le_of_ble_eq_true rfl) d_X5_useLibrary_58 (k_i (fun r53 σ53 ⟨hz53, iσ53, ik53⟩ => ?_))
          have kp : Keep [(11, 1), (11, 2), (12, 9), (12, 13), (12, 15), (12, 16), (12, 17)] [61, 63] σ0 σ53 := keep_c kp ik53 (by decide) (by decide)
          refine g_if_ne hF 74 d_X5_useLibrary_61 (by decide) rfl (fun c54_61 => ?_) (fun c54_61 => ?_)
          · -- taken at 61
            refine g_iload_n hF d_X5_useLibrary_74 rfl 2 rfl ?_
            refine g_iconst hF (v := 3) d_X5_useLibrary_75 (by decide) ?_
            refine g_icmp_ne (yv := 3) hF 89 d_X5_useLibrary_76 (by decide) rfl (by decide) (fun c55_76 => ?_) (fun c55_76 => ?_)
            · -- taken at 76
              exact g_vret hF rfl d_X5_useLibrary_89 ⟨rfl, rfl, rfl, ⟨iσ53, kp⟩⟩
            · -- not taken at 76
              refine g_aload_n hF d_X5_useLibrary_79 rfl 1 rfl ?_
              refine g_iload_n hF d_X5_useLibrary_80 rfl 0 rfl ?_
              refine g_put (v := 0) hF 15 obC_12 (by decide) m_688 rfl rfl rfl d_X5_useLibrary_81 ?_
              have kp : Keep [(11, 1), (11, 2), (12, 9), (12, 13), (12, 15), (12, 16), (12, 17)] [61, 63] σ0 (upC σ53 12 15 0) := keep_f kp (by decide)
              refine g_aload_n hF d_X5_useLibrary_84 rfl 1 rfl ?_
              refine g_iconst hF (v := 5) d_X5_useLibrary_85 (by decide) ?_
              refine g_put (v := 5) hF 13 obC_12 (by decide) m_685 rfl rfl rfl d_X5_useLibrary_86 ?_
              have kp : Keep [(11, 1), (11, 2), (12, 9), (12, 13), (12, 15), (12, 16), (12, 17)] [61, 63] σ0 (upC (upC σ53 12 15 0) 12 13 5) := keep_f kp (by decide)
              have j56 : Inv (upC (upC σ53 12 15 0) 12 13 5) := ⟨iσ53.1, iσ53.2.1, iσ53.2.2.1, iσ53.2.2.2.1, iσ53.2.2.2.2.1, iσ53.2.2.2.2.2.1, iσ53.2.2.2.2.2.2.1, iσ53.2.2.2.2.2.2.2.1, iσ53.2.2.2.2.2.2.2.2.1, iσ53.2.2.2.2.2.2.2.2.2.1, iσ53.2.2.2.2.2.2.2.2.2.2.1, iσ53.2.2.2.2.2.2.2.2.2.2.2.1, iσ53.2.2.2.2.2.2.2.2.2.2.2.2.1, iσ53.2.2.2.2.2.2.2.2.2.2.2.2.2.1, iσ53.2.2.2.2.2.2.2.2.2.2.2.2.2.2.1, iσ53.2.2.2.2.2.2.2.2.2.2.2.2.2.2.2.1, iσ53.2.2.2.2.2.2.2.2.2.2.2.2.2.2.2.2.1, iσ53.2.2.2.2.2.2.2.2.2.2.2.2.2.2.2.2.2.1, iσ53.2.2.2.2.2.2.2.2.2.2.2.2.2.2.2.2.2.2.1, iσ53.2.2.2.2.2.2.2.2.2.2.2.2.2.2.2.2.2.2.2⟩
              exact g_vret hF rfl d_X5_useLibrary_89 ⟨rfl, rfl, rfl, ⟨j56, kp⟩⟩
          · -- not taken at 61
            refine g_aload_n hF d_X5_useLibrary_64 rfl 1 rfl ?_
            refine g_bipush hF (v := 6) d_X5_useLibrary_65 (by decide) ?_
            refine g_iload_n hF d_X5_useLibrary_67 rfl 3 rfl ?_
            refine g_callV (As := [.int 6, .int a2]) (rest := []) hF (c_X5_fail a g r σ53 (6 : Int32) a2 iσ53) (Nat.le_of_ble_eq_true rfl) mV_X5_fail m_1656 (recv_ob obC_12) rfl rfl (Nat.le_of_ble_eq_true rfl) d_X5_useLibrary_68 (k_v (fun σ57 ⟨iσ57, ik57⟩ => ?_)) (fun _ _ _ h => h.elim)
            have kp : Keep [(11, 1), (11, 2), (12, 9), (12, 13), (12, 15), (12, 16), (12, 17)] [61, 63] σ0 σ57 := keep_c kp ik57 (by decide) (by decide)
            refine g_goto hF 89 d_X5_useLibrary_71 (by decide) ?_
            exact g_vret hF rfl d_X5_useLibrary_89 ⟨rfl, rfl, rfl, ⟨iσ57, kp⟩⟩
      · -- not taken at 34
        refine g_aload_n hF d_X5_useLibrary_37 rfl 1 rfl ?_
        refine g_get (v := .ref (r 11)) hF 2 obC_12 (by decide) m_673 rfl d_X5_useLibrary_38 ?_
        refine g_iload_n hF d_X5_useLibrary_41 rfl 0 rfl ?_
        refine g_callVN (As := [.int 0]) (rest := []) hF (c_X9_put a g r σ48 (0 : Int32) iσ48) (Nat.le_of_ble_eq_true rfl) mV_X9_put nm_1710 (recv_ob obC_11) rfl rfl (Nat.le_of_ble_eq_true rfl) d_X5_useLibrary_42 (k_i (fun r58 σ58 ⟨hz58, iσ58, ik58⟩ => ?_))
        have kp : Keep [(11, 1), (11, 2), (12, 9), (12, 13), (12, 15), (12, 16), (12, 17)] [61, 63] σ0 σ58 := keep_c kp ik58 (by decide) (by decide)
        refine g_if_eq hF 64 d_X5_useLibrary_45 (by decide) rfl (fun c59_45 => ?_) (fun c59_45 => ?_)
        · -- taken at 45
          refine g_aload_n hF d_X5_useLibrary_64 rfl 1 rfl ?_
          refine g_bipush hF (v := 6) d_X5_useLibrary_65 (by decide) ?_
          refine g_iload_n hF d_X5_useLibrary_67 rfl 3 rfl ?_
          refine g_callV (As := [.int 6, .int a2]) (rest := []) hF (c_X5_fail a g r σ58 (6 : Int32) a2 iσ58) (Nat.le_of_ble_eq_true rfl) mV_X5_fail m_1656 (recv_ob obC_12) rfl rfl (Nat.le_of_ble_eq_true rfl) d_X5_useLibrary_68 (k_v (fun σ60 ⟨iσ60, ik60⟩ => ?_)) (fun _ _ _ h => h.elim)
          have kp : Keep [(11, 1), (11, 2), (12, 9), (12, 13), (12, 15), (12, 16), (12, 17)] [61, 63] σ0 σ60 := keep_c kp ik60 (by decide) (by decide)
          refine g_goto hF 89 d_X5_useLibrary_71 (by decide) ?_
          exact g_vret hF rfl d_X5_useLibrary_89 ⟨rfl, rfl, rfl, ⟨iσ60, kp⟩⟩
        · -- not taken at 45
          refine g_iload_n hF d_X5_useLibrary_48 rfl 2 rfl ?_
          refine g_iconst hF (v := 2) d_X5_useLibrary_49 (by decide) ?_
          refine g_icmp_ne (yv := 2) hF 74 d_X5_useLibrary_50 (by decide) rfl (by decide) (fun c61_50 => ?_) (fun c61_50 => ?_)
          · -- taken at 50
            refine g_iload_n hF d_X5_useLibrary_74 rfl 2 rfl ?_
            refine g_iconst hF (v := 3) d_X5_useLibrary_75 (by decide) ?_
            refine g_icmp_ne (yv := 3) hF 89 d_X5_useLibrary_76 (by decide) rfl (by decide) (fun c62_76 => ?_) (fun c62_76 => ?_)
            · -- taken at 76
              exact g_vret hF rfl d_X5_useLibrary_89 ⟨rfl, rfl, rfl, ⟨iσ58, kp⟩⟩
            · -- not taken at 76
              refine g_aload_n hF d_X5_useLibrary_79 rfl 1 rfl ?_
              refine g_iload_n hF d_X5_useLibrary_80 rfl 0 rfl ?_
              refine g_put (v := 0) hF 15 obC_12 (by decide) m_688 rfl rfl rfl d_X5_useLibrary_81 ?_
              have kp : Keep [(11, 1), (11, 2), (12, 9), (12, 13), (12, 15), (12, 16), (12, 17)] [61, 63] σ0 (upC σ58 12 15 0) := keep_f kp (by decide)
              refine g_aload_n hF d_X5_useLibrary_84 rfl 1 rfl ?_
              refine g_iconst hF (v := 5) d_X5_useLibrary_85 (by decide) ?_
              refine g_put (v := 5) hF 13 obC_12 (by decide) m_685 rfl rfl rfl d_X5_useLibrary_86 ?_
              have kp : Keep [(11, 1), (11, 2), (12, 9), (12, 13), (12, 15), (12, 16), (12, 17)] [61, 63] σ0 (upC (upC σ58 12 15 0) 12 13 5) := keep_f kp (by decide)
              have j63 : Inv (upC (upC σ58 12 15 0) 12 13 5) := ⟨iσ58.1, iσ58.2.1, iσ58.2.2.1, iσ58.2.2.2.1, iσ58.2.2.2.2.1, iσ58.2.2.2.2.2.1, iσ58.2.2.2.2.2.2.1, iσ58.2.2.2.2.2.2.2.1, iσ58.2.2.2.2.2.2.2.2.1, iσ58.2.2.2.2.2.2.2.2.2.1, iσ58.2.2.2.2.2.2.2.2.2.2.1, iσ58.2.2.2.2.2.2.2.2.2.2.2.1, iσ58.2.2.2.2.2.2.2.2.2.2.2.2.1, iσ58.2.2.2.2.2.2.2.2.2.2.2.2.2.1, iσ58.2.2.2.2.2.2.2.2.2.2.2.2.2.2.1, iσ58.2.2.2.2.2.2.2.2.2.2.2.2.2.2.2.1, iσ58.2.2.2.2.2.2.2.2.2.2.2.2.2.2.2.2.1, iσ58.2.2.2.2.2.2.2.2.2.2.2.2.2.2.2.2.2.1, iσ58.2.2.2.2.2.2.2.2.2.2.2.2.2.2.2.2.2.2.1, iσ58.2.2.2.2.2.2.2.2.2.2.2.2.2.2.2.2.2.2.2⟩
              exact g_vret hF rfl d_X5_useLibrary_89 ⟨rfl, rfl, rfl, ⟨j63, kp⟩⟩
          · -- not taken at 50
            refine g_aload_n hF d_X5_useLibrary_53 rfl 1 rfl ?_
            refine g_get (v := .ref (r 11)) hF 2 obC_12 (by decide) m_673 rfl d_X5_useLibrary_54 ?_
            refine g_iload_n hF d_X5_useLibrary_57 rfl 0 rfl ?_
            refine g_callVN (As := [.int 0]) (rest := []) hF (c_X9_print a g r σ58 (0 : Int32) iσ58) (Nat.le_of_ble_eq_true rfl) mV_X9_print nm_1714 (recv_ob obC_11) rfl rfl (Nat.le_of_ble_eq_true rfl) d_X5_useLibrary_58 (k_i (fun r64 σ64 ⟨hz64, iσ64, ik64⟩ => ?_))
            have kp : Keep [(11, 1), (11, 2), (12, 9), (12, 13), (12, 15), (12, 16), (12, 17)] [61, 63] σ0 σ64 := keep_c kp ik64 (by decide) (by decide)
            refine g_if_ne hF 74 d_X5_useLibrary_61 (by decide) rfl (fun c65_61 => ?_) (fun c65_61 => ?_)
            · -- taken at 61
              refine g_iload_n hF d_X5_useLibrary_74 rfl 2 rfl ?_
              refine g_iconst hF (v := 3) d_X5_useLibrary_75 (by decide) ?_
              refine g_icmp_ne (yv := 3) hF 89 d_X5_useLibrary_76 (by decide) rfl (by decide) (fun c66_76 => ?_) (fun c66_76 => ?_)
              · -- taken at 76
                exact g_vret hF rfl d_X5_useLibrary_89 ⟨rfl, rfl, rfl, ⟨iσ64, kp⟩⟩
              · -- not taken at 76
                refine g_aload_n hF d_X5_useLibrary_79 rfl 1 rfl ?_
                refine g_iload_n hF d_X5_useLibrary_80 rfl 0 rfl ?_
                refine g_put (v := 0) hF 15 obC_12 (by decide) m_688 rfl rfl rfl d_X5_useLibrary_81 ?_
                have kp : Keep [(11, 1), (11, 2), (12, 9), (12, 13), (12, 15), (12, 16), (12, 17)] [61, 63] σ0 (upC σ64 12 15 0) := keep_f kp (by decide)
                refine g_aload_n hF d_X5_useLibrary_84 rfl 1 rfl ?_
                refine g_iconst hF (v := 5) d_X5_useLibrary_85 (by decide) ?_
                refine g_put (v := 5) hF 13 obC_12 (by decide) m_685 rfl rfl rfl d_X5_useLibrary_86 ?_
                have kp : Keep [(11, 1), (11, 2), (12, 9), (12, 13), (12, 15), (12, 16), (12, 17)] [61, 63] σ0 (upC (upC σ64 12 15 0) 12 13 5) := keep_f kp (by decide)
                have j67 : Inv (upC (upC σ64 12 15 0) 12 13 5) := ⟨iσ64.1, iσ64.2.1, iσ64.2.2.1, iσ64.2.2.2.1, iσ64.2.2.2.2.1, iσ64.2.2.2.2.2.1, iσ64.2.2.2.2.2.2.1, iσ64.2.2.2.2.2.2.2.1, iσ64.2.2.2.2.2.2.2.2.1, iσ64.2.2.2.2.2.2.2.2.2.1, iσ64.2.2.2.2.2.2.2.2.2.2.1, iσ64.2.2.2.2.2.2.2.2.2.2.2.1, iσ64.2.2.2.2.2.2.2.2.2.2.2.2.1, iσ64.2.2.2.2.2.2.2.2.2.2.2.2.2.1, iσ64.2.2.2.2.2.2.2.2.2.2.2.2.2.2.1, iσ64.2.2.2.2.2.2.2.2.2.2.2.2.2.2.2.1, iσ64.2.2.2.2.2.2.2.2.2.2.2.2.2.2.2.2.1, iσ64.2.2.2.2.2.2.2.2.2.2.2.2.2.2.2.2.2.1, iσ64.2.2.2.2.2.2.2.2.2.2.2.2.2.2.2.2.2.2.1, iσ64.2.2.2.2.2.2.2.2.2.2.2.2.2.2.2.2.2.2.2⟩
                exact g_vret hF rfl d_X5_useLibrary_89 ⟨rfl, rfl, rfl, ⟨j67, kp⟩⟩
            · -- not taken at 61
              refine g_aload_n hF d_X5_useLibrary_64 rfl 1 rfl ?_
              refine g_bipush hF (v := 6) d_X5_useLibrary_65 (by decide) ?_
              refine g_iload_n hF d_X5_useLibrary_67 rfl 3 rfl ?_
              refine g_callV (As := [.int 6, .int a2]) (rest := []) hF (c_X5_fail a g r σ64 (6 : Int32) a2 iσ64) (Nat.le_of_ble_eq_true rfl) mV_X5_fail m_1656 (recv_ob obC_12) rfl rfl (Nat.le_of_ble_eq_true rfl) d_X5_useLibrary_68 (k_v (fun σ68 ⟨iσ68, ik68⟩ => ?_)) (fun _ _ _ h => h.elim)
              have kp : Keep [(11, 1), (11, 2), (12, 9), (12, 13), (12, 15), (12, 16), (12, 17)] [61, 63] σ0 σ68 := keep_c kp ik68 (by decide) (by decide)
              refine g_goto hF 89 d_X5_useLibrary_71 (by decide) ?_
              exact g_vret hF rfl d_X5_useLibrary_89 ⟨rfl, rfl, rfl, ⟨iσ68, kp⟩⟩
    · -- not taken at 15
      refine g_aload_n hF d_X5_useLibrary_18 rfl 1 rfl ?_
      refine g_get (v := .ref (r 11)) hF 2 obC_12 (by decide) m_673 rfl d_X5_useLibrary_19 ?_
      refine g_callVN (As := []) (rest := [.ref (r 12)]) hF (c_X9_next a g r σ0 i0) (Nat.le_of_ble_eq_true rfl) mV_X9_next nm_1706 (recv_ob obC_11) rfl rfl (Nat.le_of_ble_eq_true rfl) d_X5_useLibrary_22 (k_i (fun r69 σ69 ⟨iσ69, ik69⟩ => ?_))
      have kp : Keep [(11, 1), (11, 2), (12, 9), (12, 13), (12, 15), (12, 16), (12, 17)] [61, 63] σ0 σ69 := keep_c kp ik69 (by decide) (by decide)
      refine g_goto hF 29 d_X5_useLibrary_25 (by decide) ?_
      refine g_callV (As := [.int r69]) (rest := []) hF (c_X5_push a g r σ69 r69 iσ69) (Nat.le_of_ble_eq_true rfl) mV_X5_push m_1686 (recv_ob obC_12) rfl rfl (Nat.le_of_ble_eq_true rfl) d_X5_useLibrary_29 (k_v (fun σ70 ⟨iσ70, ik70⟩ => ?_)) (fun _ _ _ h => h.elim)
      have kp : Keep [(11, 1), (11, 2), (12, 9), (12, 13), (12, 15), (12, 16), (12, 17)] [61, 63] σ0 σ70 := keep_c kp ik70 (by decide) (by decide)
      refine g_iload_n hF d_X5_useLibrary_32 rfl 2 rfl ?_
      refine g_iconst hF (v := 1) d_X5_useLibrary_33 (by decide) ?_
      refine g_icmp_ne (yv := 1) hF 48 d_X5_useLibrary_34 (by decide) rfl (by decide) (fun c71_34 => ?_) (fun c71_34 => ?_)
      · -- taken at 34
        refine g_iload_n hF d_X5_useLibrary_48 rfl 2 rfl ?_
        refine g_iconst hF (v := 2) d_X5_useLibrary_49 (by decide) ?_
        refine g_icmp_ne (yv := 2) hF 74 d_X5_useLibrary_50 (by decide) rfl (by decide) (fun c72_50 => ?_) (fun c72_50 => ?_)
        · -- taken at 50
          refine g_iload_n hF d_X5_useLibrary_74 rfl 2 rfl ?_
          refine g_iconst hF (v := 3) d_X5_useLibrary_75 (by decide) ?_
          refine g_icmp_ne (yv := 3) hF 89 d_X5_useLibrary_76 (by decide) rfl (by decide) (fun c73_76 => ?_) (fun c73_76 => ?_)
          · -- taken at 76
            exact g_vret hF rfl d_X5_useLibrary_89 ⟨rfl, rfl, rfl, ⟨iσ70, kp⟩⟩
          · -- not taken at 76
            refine g_aload_n hF d_X5_useLibrary_79 rfl 1 rfl ?_
            refine g_iload_n hF d_X5_useLibrary_80 rfl 0 rfl ?_
            refine g_put (v := 0) hF 15 obC_12 (by decide) m_688 rfl rfl rfl d_X5_useLibrary_81 ?_
            have kp : Keep [(11, 1), (11, 2), (12, 9), (12, 13), (12, 15), (12, 16), (12, 17)] [61, 63] σ0 (upC σ70 12 15 0) := keep_f kp (by decide)
            refine g_aload_n hF d_X5_useLibrary_84 rfl 1 rfl ?_
            refine g_iconst hF (v := 5) d_X5_useLibrary_85 (by decide) ?_
            refine g_put (v := 5) hF 13 obC_12 (by decide) m_685 rfl rfl rfl d_X5_useLibrary_86 ?_
            have kp : Keep [(11, 1), (11, 2), (12, 9), (12, 13), (12, 15), (12, 16), (12, 17)] [61, 63] σ0 (upC (upC σ70 12 15 0) 12 13 5) := keep_f kp (by decide)
            have j74 : Inv (upC (upC σ70 12 15 0) 12 13 5) := ⟨iσ70.1, iσ70.2.1, iσ70.2.2.1, iσ70.2.2.2.1, iσ70.2.2.2.2.1, iσ70.2.2.2.2.2.1, iσ70.2.2.2.2.2.2.1, iσ70.2.2.2.2.2.2.2.1, iσ70.2.2.2.2.2.2.2.2.1, iσ70.2.2.2.2.2.2.2.2.2.1, iσ70.2.2.2.2.2.2.2.2.2.2.1, iσ70.2.2.2.2.2.2.2.2.2.2.2.1, iσ70.2.2.2.2.2.2.2.2.2.2.2.2.1, iσ70.2.2.2.2.2.2.2.2.2.2.2.2.2.1, iσ70.2.2.2.2.2.2.2.2.2.2.2.2.2.2.1, iσ70.2.2.2.2.2.2.2.2.2.2.2.2.2.2.2.1, iσ70.2.2.2.2.2.2.2.2.2.2.2.2.2.2.2.2.1, iσ70.2.2.2.2.2.2.2.2.2.2.2.2.2.2.2.2.2.1, iσ70.2.2.2.2.2.2.2.2.2.2.2.2.2.2.2.2.2.2.1, iσ70.2.2.2.2.2.2.2.2.2.2.2.2.2.2.2.2.2.2.2⟩
            exact g_vret hF rfl d_X5_useLibrary_89 ⟨rfl, rfl, rfl, ⟨j74, kp⟩⟩
        · -- not taken at 50
          refine g_aload_n hF d_X5_useLibrary_53 rfl 1 rfl ?_
          refine g_get (v := .ref (r 11)) hF 2 obC_12 (by decide) m_673 rfl d_X5_useLibrary_54 ?_
          refine g_iload_n hF d_X5_useLibrary_57 rfl 0 rfl ?_
          refine g_callVN (As := [.int 0]) (rest := []) hF (c_X9_print a g r σ70 (0 : Int32) iσ70) (Nat.le_of_ble_eq_true rfl) mV_X9_print nm_1714 (recv_ob obC_11) rfl rfl (Nat.le_of_ble_eq_true rfl) d_X5_useLibrary_58 (k_i (fun r75 σ75 ⟨hz75, iσ75, ik75⟩ => ?_))
          have kp : Keep [(11, 1), (11, 2), (12, 9), (12, 13), (12, 15), (12, 16), (12, 17)] [61, 63] σ0 σ75 := keep_c kp ik75 (by decide) (by decide)
          refine g_if_ne hF 74 d_X5_useLibrary_61 (by decide) rfl (fun c76_61 => ?_) (fun c76_61 => ?_)
          · -- taken at 61
            refine g_iload_n hF d_X5_useLibrary_74 rfl 2 rfl ?_
            refine g_iconst hF (v := 3) d_X5_useLibrary_75 (by decide) ?_
            refine g_icmp_ne (yv := 3) hF 89 d_X5_useLibrary_76 (by decide) rfl (by decide) (fun c77_76 => ?_) (fun c77_76 => ?_)
            · -- taken at 76
              exact g_vret hF rfl d_X5_useLibrary_89 ⟨rfl, rfl, rfl, ⟨iσ75, kp⟩⟩
            · -- not taken at 76
              refine g_aload_n hF d_X5_useLibrary_79 rfl 1 rfl ?_
              refine g_iload_n hF d_X5_useLibrary_80 rfl 0 rfl ?_
              refine g_put (v := 0) hF 15 obC_12 (by decide) m_688 rfl rfl rfl d_X5_useLibrary_81 ?_
              have kp : Keep [(11, 1), (11, 2), (12, 9), (12, 13), (12, 15), (12, 16), (12, 17)] [61, 63] σ0 (upC σ75 12 15 0) := keep_f kp (by decide)
              refine g_aload_n hF d_X5_useLibrary_84 rfl 1 rfl ?_
              refine g_iconst hF (v := 5) d_X5_useLibrary_85 (by decide) ?_
              refine g_put (v := 5) hF 13 obC_12 (by decide) m_685 rfl rfl rfl d_X5_useLibrary_86 ?_
              have kp : Keep [(11, 1), (11, 2), (12, 9), (12, 13), (12, 15), (12, 16), (12, 17)] [61, 63] σ0 (upC (upC σ75 12 15 0) 12 13 5) := keep_f kp (by decide)
              have j78 : Inv (upC (upC σ75 12 15 0) 12 13 5) := ⟨iσ75.1, iσ75.2.1, iσ75.2.2.1, iσ75.2.2.2.1, iσ75.2.2.2.2.1, iσ75.2.2.2.2.2.1, iσ75.2.2.2.2.2.2.1, iσ75.2.2.2.2.2.2.2.1, iσ75.2.2.2.2.2.2.2.2.1, iσ75.2.2.2.2.2.2.2.2.2.1, iσ75.2.2.2.2.2.2.2.2.2.2.1, iσ75.2.2.2.2.2.2.2.2.2.2.2.1, iσ75.2.2.2.2.2.2.2.2.2.2.2.2.1, iσ75.2.2.2.2.2.2.2.2.2.2.2.2.2.1, iσ75.2.2.2.2.2.2.2.2.2.2.2.2.2.2.1, iσ75.2.2.2.2.2.2.2.2.2.2.2.2.2.2.2.1, iσ75.2.2.2.2.2.2.2.2.2.2.2.2.2.2.2.2.1, iσ75.2.2.2.2.2.2.2.2.2.2.2.2.2.2.2.2.2.1, iσ75.2.2.2.2.2.2.2.2.2.2.2.2.2.2.2.2.2.2.1, iσ75.2.2.2.2.2.2.2.2.2.2.2.2.2.2.2.2.2.2.2⟩
              exact g_vret hF rfl d_X5_useLibrary_89 ⟨rfl, rfl, rfl, ⟨j78, kp⟩⟩
          · -- not taken at 61
            refine g_aload_n hF d_X5_useLibrary_64 rfl 1 rfl ?_
            refine g_bipush hF (v := 6) d_X5_useLibrary_65 (by decide) ?_
            refine g_iload_n hF d_X5_useLibrary_67 rfl 3 rfl ?_
            refine g_callV (As := [.int 6, .int a2]) (rest := []) hF (c_X5_fail a g r σ75 (6 : Int32) a2 iσ75) (Nat.le_of_ble_eq_true rfl) mV_X5_fail m_1656 (recv_ob obC_12) rfl rfl (Nat.le_of_ble_eq_true rfl) d_X5_useLibrary_68 (k_v (fun σ79 ⟨iσ79, ik79⟩ => ?_)) (fun _ _ _ h => h.elim)
            have kp : Keep [(11, 1), (11, 2), (12, 9), (12, 13), (12, 15), (12, 16), (12, 17)] [61, 63] σ0 σ79 := keep_c kp ik79 (by decide) (by decide)
            refine g_goto hF 89 d_X5_useLibrary_71 (by decide) ?_
            exact g_vret hF rfl d_X5_useLibrary_89 ⟨rfl, rfl, rfl, ⟨iσ79, kp⟩⟩
      · -- not taken at 34
        refine g_aload_n hF d_X5_useLibrary_37 rfl 1 rfl ?_
        refine g_get (v := .ref (r 11)) hF 2 obC_12 (by decide) m_673 rfl d_X5_useLibrary_38 ?_
        refine g_iload_n hF d_X5_useLibrary_41 rfl 0 rfl ?_
        refine g_callVN (As := [.int 0]) (rest := []) hF (c_X9_put a g r σ70 (0 : Int32) iσ70) (Nat.le_of_ble_eq_true rfl) mV_X9_put nm_1710 (recv_ob obC_11) rfl rfl (Nat.le_of_ble_eq_true rfl) d_X5_useLibrary_42 (k_i (fun r80 σ80 ⟨hz80, iσ80, ik80⟩ => ?_))
        have kp : Keep [(11, 1), (11, 2), (12, 9), (12, 13), (12, 15), (12, 16), (12, 17)] [61, 63] σ0 σ80 := keep_c kp ik80 (by decide) (by decide)
        refine g_if_eq hF 64 d_X5_useLibrary_45 (by decide) rfl (fun c81_45 => ?_) (fun c81_45 => ?_)
        · -- taken at 45
          refine g_aload_n hF d_X5_useLibrary_64 rfl 1 rfl ?_
          refine g_bipush hF (v := 6) d_X5_useLibrary_65 (by decide) ?_
          refine g_iload_n hF d_X5_useLibrary_67 rfl 3 rfl ?_
          refine g_callV (As := [.int 6, .int a2]) (rest := []) hF (c_X5_fail a g r σ80 (6 : Int32) a2 iσ80) (Nat.le_of_ble_eq_true rfl) mV_X5_fail m_1656 (recv_ob obC_12) rfl rfl (Nat.le_of_ble_eq_true rfl) d_X5_useLibrary_68 (k_v (fun σ82 ⟨iσ82, ik82⟩ => ?_)) (fun _ _ _ h => h.elim)
          have kp : Keep [(11, 1), (11, 2), (12, 9), (12, 13), (12, 15), (12, 16), (12, 17)] [61, 63] σ0 σ82 := keep_c kp ik82 (by decide) (by decide)
          refine g_goto hF 89 d_X5_useLibrary_71 (by decide) ?_
          exact g_vret hF rfl d_X5_useLibrary_89 ⟨rfl, rfl, rfl, ⟨iσ82, kp⟩⟩
        · -- not taken at 45
          refine g_iload_n hF d_X5_useLibrary_48 rfl 2 rfl ?_
          refine g_iconst hF (v := 2) d_X5_useLibrary_49 (by decide) ?_
          refine g_icmp_ne (yv := 2) hF 74 d_X5_useLibrary_50 (by decide) rfl (by decide) (fun c83_50 => ?_) (fun c83_50 => ?_)
          · -- taken at 50
            refine g_iload_n hF d_X5_useLibrary_74 rfl 2 rfl ?_
            refine g_iconst hF (v := 3) d_X5_useLibrary_75 (by decide) ?_
            refine g_icmp_ne (yv := 3) hF 89 d_X5_useLibrary_76 (by decide) rfl (by decide) (fun c84_76 => ?_) (fun c84_76 => ?_)
            · -- taken at 76
              exact g_vret hF rfl d_X5_useLibrary_89 ⟨rfl, rfl, rfl, ⟨iσ80, kp⟩⟩
            · -- not taken at 76
              refine g_aload_n hF d_X5_useLibrary_79 rfl 1 rfl ?_
              refine g_iload_n hF d_X5_useLibrary_80 rfl 0 rfl ?_
              refine g_put (v := 0) hF 15 obC_12 (by decide) m_688 rfl rfl rfl d_X5_useLibrary_81 ?_
              have kp : Keep [(11, 1), (11, 2), (12, 9), (12, 13), (12, 15), (12, 16), (12, 17)] [61, 63] σ0 (upC σ80 12 15 0) := keep_f kp (by decide)
              refine g_aload_n hF d_X5_useLibrary_84 rfl 1 rfl ?_
              refine g_iconst hF (v := 5) d_X5_useLibrary_85 (by decide) ?_
              refine g_put (v := 5) hF 13 obC_12 (by decide) m_685 rfl rfl rfl d_X5_useLibrary_86 ?_
              have kp : Keep [(11, 1), (11, 2), (12, 9), (12, 13), (12, 15), (12, 16), (12, 17)] [61, 63] σ0 (upC (upC σ80 12 15 0) 12 13 5) := keep_f kp (by decide)
              have j85 : Inv (upC (upC σ80 12 15 0) 12 13 5) := ⟨iσ80.1, iσ80.2.1, iσ80.2.2.1, iσ80.2.2.2.1, iσ80.2.2.2.2.1, iσ80.2.2.2.2.2.1, iσ80.2.2.2.2.2.2.1, iσ80.2.2.2.2.2.2.2.1, iσ80.2.2.2.2.2.2.2.2.1, iσ80.2.2.2.2.2.2.2.2.2.1, iσ80.2.2.2.2.2.2.2.2.2.2.1, iσ80.2.2.2.2.2.2.2.2.2.2.2.1, iσ80.2.2.2.2.2.2.2.2.2.2.2.2.1, iσ80.2.2.2.2.2.2.2.2.2.2.2.2.2.1, iσ80.2.2.2.2.2.2.2.2.2.2.2.2.2.2.1, iσ80.2.2.2.2.2.2.2.2.2.2.2.2.2.2.2.1, iσ80.2.2.2.2.2.2.2.2.2.2.2.2.2.2.2.2.1, iσ80.2.2.2.2.2.2.2.2.2.2.2.2.2.2.2.2.2.1, iσ80.2.2.2.2.2.2.2.2.2.2.2.2.2.2.2.2.2.2.1, iσ80.2.2.2.2.2.2.2.2.2.2.2.2.2.2.2.2.2.2.2⟩
              exact g_vret hF rfl d_X5_useLibrary_89 ⟨rfl, rfl, rfl, ⟨j85, kp⟩⟩
          · -- not taken at 50
            refine g_aload_n hF d_X5_useLibrary_53 rfl 1 rfl ?_
            refine g_get (v := .ref (r 11)) hF 2 obC_12 (by decide) m_673 rfl d_X5_useLibrary_54 ?_
            refine g_iload_n hF d_X5_useLibrary_57 rfl 0 rfl ?_
            refine g_callVN (As := [.int 0]) (rest := []) hF (c_X9_print a g r σ80 (0 : Int32) iσ80) (Nat.le_of_ble_eq_true rfl) mV_X9_print nm_1714 (recv_ob obC_11) rfl rfl (Nat.le_of_ble_eq_true rfl) d_X5_useLibrary_58 (k_i (fun r86 σ86 ⟨hz86, iσ86, ik86⟩ => ?_))
            have kp : Keep [(11, 1), (11, 2), (12, 9), (12, 13), (12, 15), (12, 16), (12, 17)] [61, 63] σ0 σ86 := keep_c kp ik86 (by decide) (by decide)
            refine g_if_ne hF 74 d_X5_useLibrary_61 (by decide) rfl (fun c87_61 => ?_) (fun c87_61 => ?_)
            · -- taken at 61
              refine g_iload_n hF d_X5_useLibrary_74 rfl 2 rfl ?_
              refine g_iconst hF (v := 3) d_X5_useLibrary_75 (by decide) ?_
              refine g_icmp_ne (yv := 3) hF 89 d_X5_useLibrary_76 (by decide) rfl (by decide) (fun c88_76 => ?_) (fun c88_76 => ?_)
              · -- taken at 76
                exact g_vret hF rfl d_X5_useLibrary_89 ⟨rfl, rfl, rfl, ⟨iσ86, kp⟩⟩
              · -- not taken at 76
                refine g_aload_n hF d_X5_useLibrary_79 rfl 1 rfl ?_
                refine g_iload_n hF d_X5_useLibrary_80 rfl 0 rfl ?_
                refine g_put (v := 0) hF 15 obC_12 (by decide) m_688 rfl rfl rfl d_X5_useLibrary_81 ?_
                have kp : Keep [(11, 1), (11, 2), (12, 9), (12, 13), (12, 15), (12, 16), (12, 17)] [61, 63] σ0 (upC σ86 12 15 0) := keep_f kp (by decide)
                refine g_aload_n hF d_X5_useLibrary_84 rfl 1 rfl ?_
                refine g_iconst hF (v := 5) d_X5_useLibrary_85 (by decide) ?_
                refine g_put (v := 5) hF 13 obC_12 (by decide) m_685 rfl rfl rfl d_X5_useLibrary_86 ?_
                have kp : Keep [(11, 1), (11, 2), (12, 9), (12, 13), (12, 15), (12, 16), (12, 17)] [61, 63] σ0 (upC (upC σ86 12 15 0) 12 13 5) := keep_f kp (by decide)
                have j89 : Inv (upC (upC σ86 12 15 0) 12 13 5) := ⟨iσ86.1, iσ86.2.1, iσ86.2.2.1, iσ86.2.2.2.1, iσ86.2.2.2.2.1, iσ86.2.2.2.2.2.1, iσ86.2.2.2.2.2.2.1, iσ86.2.2.2.2.2.2.2.1, iσ86.2.2.2.2.2.2.2.2.1, iσ86.2.2.2.2.2.2.2.2.2.1, iσ86.2.2.2.2.2.2.2.2.2.2.1, iσ86.2.2.2.2.2.2.2.2.2.2.2.1, iσ86.2.2.2.2.2.2.2.2.2.2.2.2.1, iσ86.2.2.2.2.2.2.2.2.2.2.2.2.2.1, iσ86.2.2.2.2.2.2.2.2.2.2.2.2.2.2.1, iσ86.2.2.2.2.2.2.2.2.2.2.2.2.2.2.2.1, iσ86.2.2.2.2.2.2.2.2.2.2.2.2.2.2.2.2.1, iσ86.2.2.2.2.2.2.2.2.2.2.2.2.2.2.2.2.2.1, iσ86.2.2.2.2.2.2.2.2.2.2.2.2.2.2.2.2.2.2.1, iσ86.2.2.2.2.2.2.2.2.2.2.2.2.2.2.2.2.2.2.2⟩
                exact g_vret hF rfl d_X5_useLibrary_89 ⟨rfl, rfl, rfl, ⟨j89, kp⟩⟩
            · -- not taken at 61
              refine g_aload_n hF d_X5_useLibrary_64 rfl 1 rfl ?_
              refine g_bipush hF (v := 6) d_X5_useLibrary_65 (by decide) ?_
              refine g_iload_n hF d_X5_useLibrary_67 rfl 3 rfl ?_
              refine g_callV (As := [.int 6, .int a2]) (rest := []) hF (c_X5_fail a g r σ86 (6 : Int32) a2 iσ86) (Nat.le_of_ble_eq_true rfl) mV_X5_fail m_1656 (recv_ob obC_12) rfl rfl (Nat.le_of_ble_eq_true rfl) d_X5_useLibrary_68 (k_v (fun σ90 ⟨iσ90, ik90⟩ => ?_)) (fun _ _ _ h => h.elim)
              have kp : Keep [(11, 1), (11, 2), (12, 9), (12, 13), (12, 15), (12, 16), (12, 17)] [61, 63] σ0 σ90 := keep_c kp ik90 (by decide) (by decide)
              refine g_goto hF 89 d_X5_useLibrary_71 (by decide) ?_
              exact g_vret hF rfl d_X5_useLibrary_89 ⟨rfl, rfl, rfl, ⟨iσ90, kp⟩⟩
set_option maxHeartbeats 4000000 in
set_option maxRecDepth 100000 in
theorem c_X2_named (a : Nat → Nat) (g : Nat → Nat → Int32) (r : Nat → Nat) (σ0 : St) (a1 : Int32) (i0 : Inv σ0) (l : Launch) (D : va_G) (cy : Nat → ClassId) : Ct l D cy SC r (EC a g) y_X2_named (Cond.code y_X2_named b_X2_named 5 none) 3 [.ref (r 7), .int a1] σ0 Z0 [] (QV (fun σ9 => (Inv σ9 ∧ Keep [(4, 1), (6, 3), (6, 4), (7, 7)] [24, 25, 43] σ0 σ9))) QF := by
  refine Ct_of (EC_ok a g) (by decide) (Nat.le_of_ble_eq_true rfl) (by decide) (fun X hnn hF => ?_)
  show G SC r X σ0 Z0 [] [(0, .ref (r 7)), (1, .int a1)] [] 0
  have b114 : ∀ (σ : St) (x1 : Int32) (x2 : Int32) (x3 : Int32) (qx4 : Nat) (qy0 : Nat) (y1 : Int32) , Inv σ → Keep [(4, 1), (6, 3), (6, 4), (7, 7)] [24, 25, 43] σ0 σ → isOp qx4 → isOp qy0 → G SC r X σ Z0 [] [(0, .ref (r 7)), (1, .int x1), (2, .int x2), (3, .int x3), (4, .ref (r qx4))] [.int y1, .ref (r qy0)] 114 := by
    intro σ x1 x2 x3 qx4 qy0 y1 inv kp hqx4 hqy0
    refine g_putN hF 1 (obC_op hqy0) (by decide) nm_402 rfl rfl (rf_op hqy0) d_X2_named_114 ?_
    obtain ⟨σ1, eσ1⟩ : ∃ z, z = upC σ qy0 1 y1 := ⟨_, rfl⟩
    rw [← eσ1]
    have ik1 : Keep [] [] σ σ1 := by rw [eσ1]; exact keep_op hqy0
    have kp : Keep [(4, 1), (6, 3), (6, 4), (7, 7)] [24, 25, 43] σ0 σ1 := keep_c kp ik1 (by decide) (by decide)
    have iσ1 : Inv σ1 := inv_keep ik1 inv
    refine g_aload_n hF d_X2_named_117 rfl 0 rfl ?_
    refine g_get (v := .ref (r 5)) hF 3 obC_7 (by decide) m_459 rfl d_X2_named_118 ?_
    refine g_iload_n hF d_X2_named_121 rfl 3 rfl ?_
    refine g_bipush hF (v := 8) d_X2_named_122 (by decide) ?_
    refine g_callVN (As := [.int x3, .int 8]) (rest := []) hF (c_X8_mark a g r σ1 x3 (8 : Int32) iσ1) (Nat.le_of_ble_eq_true rfl) mV_X8_mark nm_1133 (recv_ob obC_5) rfl rfl (Nat.le_of_ble_eq_true rfl) d_X2_named_124 (k_v (fun σ2 ⟨iσ2, ik2⟩ => ?_))
    have kp : Keep [(4, 1), (6, 3), (6, 4), (7, 7)] [24, 25, 43] σ0 σ2 := keep_c kp ik2 (by decide) (by decide)
    refine g_iload_n hF d_X2_named_127 rfl 2 rfl ?_
    refine g_if_lt hF 141 d_X2_named_128 (by decide) rfl (fun c3_128 => ?_) (fun c3_128 => ?_)
    · -- taken at 128
      refine g_aload_n hF d_X2_named_141 rfl 0 rfl ?_
      refine g_get (v := .ref (r 5)) hF 3 obC_7 (by decide) m_459 rfl d_X2_named_142 ?_
      refine g_getN (v := .ref (r 27)) hF 4 obC_5 (by decide) nm_233 rfl d_X2_named_145 ?_
      refine g_aload hF d_X2_named_148 4 rfl ?_
      refine g_getN hF 4 (obC_op hqx4) (by decide) nm_408 (fval_op hqx4) d_X2_named_150 ?_
      refine g_any (fun v4 => ?_)
      refine g_callSN (As := [.ref (r 27), .int v4]) (rest := []) hF (c_at a g r σ2 arC_27 (by decide) v4) (Nat.le_of_ble_eq_true rfl) mS_X12_at nm_1058 rfl rfl (Nat.le_of_ble_eq_true rfl) d_X2_named_153 (k_rop (fun r5 hr5 => ?_))
      refine g_if_lt hF 165 d_X2_named_156 (by decide) rfl (fun c6_156 => ?_) (fun c6_156 => ?_)
      · -- taken at 156
        exact g_vret hF rfl d_X2_named_165 ⟨rfl, rfl, rfl, ⟨iσ2, kp⟩⟩
      · -- not taken at 156
        refine g_aload_n hF d_X2_named_159 rfl 0 rfl ?_
        refine g_aload hF d_X2_named_160 4 rfl ?_
        refine g_callV (As := [.ref (r qx4)]) (rest := []) hF (c_X2_address a g r σ2 qx4 hqx4 iσ2) (Nat.le_of_ble_eq_true rfl) mV_X2_address m_1137 (recv_ob obC_7) rfl rfl (Nat.le_of_ble_eq_true rfl) d_X2_named_162 (k_v (fun σ7 ⟨iσ7, ik7⟩ => ?_)) (fun _ _ _ h => h.elim)
        have kp : Keep [(4, 1), (6, 3), (6, 4), (7, 7)] [24, 25, 43] σ0 σ7 := keep_c kp ik7 (by decide) (by decide)
        exact g_vret hF rfl d_X2_named_165 ⟨rfl, rfl, rfl, ⟨iσ7, kp⟩⟩
    · -- not taken at 128
      refine g_aload_n hF d_X2_named_131 rfl 0 rfl ?_
      refine g_get (v := .ref (r 6)) hF 2 obC_7 (by decide) m_458 rfl d_X2_named_132 ?_
      refine g_getN (v := .ref (r 42)) hF 13 obC_6 (by decide) nm_337 rfl d_X2_named_135 ?_
      refine g_goto hF 148 d_X2_named_138 (by decide) ?_
      refine g_aload hF d_X2_named_148 4 rfl ?_
      refine g_getN hF 4 (obC_op hqx4) (by decide) nm_408 (fval_op hqx4) d_X2_named_150 ?_
      refine g_any (fun v8 => ?_)
      refine g_callSN (As := [.ref (r 42), .int v8]) (rest := []) hF (c_at a g r σ2 arC_42 (by decide) v8) (Nat.le_of_ble_eq_true rfl) mS_X12_at nm_1058 rfl rfl (Nat.le_of_ble_eq_true rfl) d_X2_named_153 (k_rop (fun r9 hr9 => ?_))
      refine g_if_lt hF 165 d_X2_named_156 (by decide) rfl (fun c10_156 => ?_) (fun c10_156 => ?_)
      · -- taken at 156
        exact g_vret hF rfl d_X2_named_165 ⟨rfl, rfl, rfl, ⟨iσ2, kp⟩⟩
      · -- not taken at 156
        refine g_aload_n hF d_X2_named_159 rfl 0 rfl ?_
        refine g_aload hF d_X2_named_160 4 rfl ?_
        refine g_callV (As := [.ref (r qx4)]) (rest := []) hF (c_X2_address a g r σ2 qx4 hqx4 iσ2) (Nat.le_of_ble_eq_true rfl) mV_X2_address m_1137 (recv_ob obC_7) rfl rfl (Nat.le_of_ble_eq_true rfl) d_X2_named_162 (k_v (fun σ11 ⟨iσ11, ik11⟩ => ?_)) (fun _ _ _ h => h.elim)
        have kp : Keep [(4, 1), (6, 3), (6, 4), (7, 7)] [24, 25, 43] σ0 σ11 := keep_c kp ik11 (by decide) (by decide)
        exact g_vret hF rfl d_X2_named_165 ⟨rfl, rfl, rfl, ⟨iσ11, kp⟩⟩
  have b80 : ∀ (σ : St) (x1 : Int32) (x2 : Int32) (x3 : Int32) (qx4 : Nat) (qy0 : Nat) (y1 : Int32) , Inv σ → Keep [(4, 1), (6, 3), (6, 4), (7, 7)] [24, 25, 43] σ0 σ → isOp qx4 → isOp qy0 → G SC r X σ Z0 [] [(0, .ref (r 7)), (1, .int x1), (2, .int x2), (3, .int x3), (4, .ref (r qx4))] [.int y1, .ref (r qy0)] 80 := by
    intro σ x1 x2 x3 qx4 qy0 y1 inv kp hqx4 hqy0
    refine g_putN hF 0 (obC_op hqy0) (by decide) nm_399 rfl rfl (rf_op hqy0) d_X2_named_80 ?_
    obtain ⟨σ12, eσ12⟩ : ∃ z, z = upC σ qy0 0 y1 := ⟨_, rfl⟩
    rw [← eσ12]
    have ik12 : Keep [] [] σ σ12 := by rw [eσ12]; exact keep_op hqy0
    have kp : Keep [(4, 1), (6, 3), (6, 4), (7, 7)] [24, 25, 43] σ0 σ12 := keep_c kp ik12 (by decide) (by decide)
    have iσ12 : Inv σ12 := inv_keep ik12 inv
    refine g_aload hF d_X2_named_83 4 rfl ?_
    refine g_iload_n hF d_X2_named_85 rfl 2 rfl ?_
    refine g_if_lt hF 103 d_X2_named_86 (by decide) rfl (fun c13_86 => ?_) (fun c13_86 => ?_)
    · -- taken at 86
      refine g_aload_n hF d_X2_named_103 rfl 0 rfl ?_
      refine g_get (v := .ref (r 5)) hF 3 obC_7 (by decide) m_459 rfl d_X2_named_104 ?_
      refine g_getN (v := .ref (r 26)) hF 3 obC_5 (by decide) nm_229 rfl d_X2_named_107 ?_
      refine g_iload_n hF d_X2_named_110 rfl 3 rfl ?_
      refine g_callSN (As := [.ref (r 26), .int x3]) (rest := [.ref (r qx4)]) hF (c_at a g r σ12 arC_26 (by decide) x3) (Nat.le_of_ble_eq_true rfl) mS_X12_at nm_1058 rfl rfl (Nat.le_of_ble_eq_true rfl) d_X2_named_111 (k_rop (fun r14 hr14 => ?_))
      exact b114 σ12 x1 x2 x3 qx4 qx4 r14 iσ12 kp hqx4 hqx4
    · -- not taken at 86
      refine g_aload_n hF d_X2_named_89 rfl 0 rfl ?_
      refine g_get (v := .ref (r 6)) hF 2 obC_7 (by decide) m_458 rfl d_X2_named_90 ?_
      refine g_getN (v := .ref (r 41)) hF 12 obC_6 (by decide) nm_335 rfl d_X2_named_93 ?_
      refine g_iload_n hF d_X2_named_96 rfl 2 rfl ?_
      refine g_callSN (As := [.ref (r 41), .int x2]) (rest := [.ref (r qx4)]) hF (c_at a g r σ12 arC_41 (by decide) x2) (Nat.le_of_ble_eq_true rfl) mS_X12_at nm_1058 rfl rfl (Nat.le_of_ble_eq_true rfl) d_X2_named_97 (k_rop (fun r15 hr15 => ?_))
      refine g_goto hF 114 d_X2_named_100 (by decide) ?_
      exact b114 σ12 x1 x2 x3 qx4 qx4 r15 iσ12 kp hqx4 hqx4
  have b53 : ∀ (σ : St) (x1 : Int32) (x2 : Int32) (x3 : Int32) , Inv σ → Keep [(4, 1), (6, 3), (6, 4), (7, 7)] [24, 25, 43] σ0 σ → G SC r X σ Z0 [] [(0, .ref (r 7)), (1, .int x1), (2, .int x2), (3, .int x3)] [] 53 := by
    intro σ x1 x2 x3 inv kp
    refine g_aload_n hF d_X2_named_53 rfl 0 rfl ?_
    refine g_callV (As := []) (rest := []) hF (c_X2_push a g r σ inv) (Nat.le_of_ble_eq_true rfl) mV_X2_push m_1063 (recv_ob obC_7) rfl rfl (Nat.le_of_ble_eq_true rfl) d_X2_named_54 (k_a (fun q16 σ16 ⟨hq16, iσ16, ik16⟩ => ?_)) (fun _ _ _ h => h.elim)
    have kp : Keep [(4, 1), (6, 3), (6, 4), (7, 7)] [24, 25, 43] σ0 σ16 := keep_c kp ik16 (by decide) (by decide)
    refine g_astore hF [(4, .ref (r q16)), (0, .ref (r 7)), (1, .int x1), (2, .int x2), (3, .int x3)] d_X2_named_57 hnn (by decide) rfl ?_
    refine g_aload hF d_X2_named_59 0 rfl ?_
    refine g_iload_n hF d_X2_named_61 rfl 3 rfl ?_
    refine g_iload_n hF d_X2_named_62 rfl 4 rfl ?_
    refine g_mmax hF (Nat.le_of_ble_eq_true rfl) m_1130 m_1131 m_23 m_1132 (Nat.le_of_ble_eq_true rfl) d_X2_named_63 ?_
    refine g_nm (fun v18 ev18 => ?_)
    have mv18 := s_max ev18
    refine g_putN hF 4 (obC_op hq16) (by decide) nm_408 rfl rfl (rf_op hq16) d_X2_named_66 ?_
    obtain ⟨σ19, eσ19⟩ : ∃ z, z = upC σ16 q16 4 v18 := ⟨_, rfl⟩
    rw [← eσ19]
    have ik19 : Keep [] [] σ16 σ19 := by rw [eσ19]; exact keep_op hq16
    have kp : Keep [(4, 1), (6, 3), (6, 4), (7, 7)] [24, 25, 43] σ0 σ19 := keep_c kp ik19 (by decide) (by decide)
    have iσ19 : Inv σ19 := inv_keep ik19 iσ16
    refine g_aload hF d_X2_named_69 0 rfl ?_
    refine g_iload_n hF d_X2_named_71 rfl 3 rfl ?_
    refine g_if_lt hF 79 d_X2_named_72 (by decide) rfl (fun c20_72 => ?_) (fun c20_72 => ?_)
    · -- taken at 72
      refine g_iconst hF (v := 2) d_X2_named_79 (by decide) ?_
      exact g_sub (L' := [(0, .ref (r 7)), (1, .int x1), (2, .int x2), (3, .int x3), (4, .ref (r q16))]) [1, 2, 3, 4, 0] rfl (b80 σ19 x1 x2 x3 q16 q16 (2 : Int32) iσ19 kp hq16 hq16)
    · -- not taken at 72
      refine g_iconst hF (v := 1) d_X2_named_75 (by decide) ?_
      refine g_goto hF 80 d_X2_named_76 (by decide) ?_
      exact g_sub (L' := [(0, .ref (r 7)), (1, .int x1), (2, .int x2), (3, .int x3), (4, .ref (r q16))]) [1, 2, 3, 4, 0] rfl (b80 σ19 x1 x2 x3 q16 q16 (1 : Int32) iσ19 kp hq16 hq16)
  have b47 : ∀ (σ : St) (x1 : Int32) (x2 : Int32) (x3 : Int32) , Inv σ → Keep [(4, 1), (6, 3), (6, 4), (7, 7)] [24, 25, 43] σ0 σ → G SC r X σ Z0 [] [(0, .ref (r 7)), (1, .int x1), (2, .int x2), (3, .int x3)] [] 47 := by
    intro σ x1 x2 x3 inv kp
    refine g_aload_n hF d_X2_named_47 rfl 0 rfl ?_
    refine g_iload_n hF d_X2_named_48 rfl 1 rfl ?_
    refine g_callV (As := [.int x1]) (rest := []) hF (c_X2_refuse a g r σ x1 inv) (Nat.le_of_ble_eq_true rfl) mV_X2_refuse m_1126 (recv_ob obC_7) rfl rfl (Nat.le_of_ble_eq_true rfl) d_X2_named_49 (k_v (fun σ21 ⟨iσ21, ik21⟩ => ?_)) (fun _ _ _ h => h.elim)
    have kp : Keep [(4, 1), (6, 3), (6, 4), (7, 7)] [24, 25, 43] σ0 σ21 := keep_c kp ik21 (by decide) (by decide)
    exact g_vret hF rfl d_X2_named_52 ⟨rfl, rfl, rfl, ⟨iσ21, kp⟩⟩
  have b26 : ∀ (σ : St) (x1 : Int32) (x2 : Int32) (y0 : Int32) , Inv σ → Keep [(4, 1), (6, 3), (6, 4), (7, 7)] [24, 25, 43] σ0 σ → G SC r X σ Z0 [] [(0, .ref (r 7)), (1, .int x1), (2, .int x2)] [.int y0] 26 := by
    intro σ x1 x2 y0 inv kp
    refine g_istore_n hF [(3, .int y0), (0, .ref (r 7)), (1, .int x1), (2, .int x2)] d_X2_named_26 rfl hnn (by decide) rfl ?_
    refine g_iload_n hF d_X2_named_27 rfl 3 rfl ?_
    refine g_if_ge hF 53 d_X2_named_28 (by decide) rfl (fun c22_28 => ?_) (fun c22_28 => ?_)
    · -- taken at 28
      exact g_sub (L' := [(0, .ref (r 7)), (1, .int x1), (2, .int x2), (3, .int y0)]) [1, 2, 3, 0] rfl (b53 σ x1 x2 y0 inv kp)
    · -- not taken at 28
      refine g_iload_n hF d_X2_named_31 rfl 0 rfl ?_
      refine g_if_lt hF 47 d_X2_named_32 (by decide) rfl (fun c23_32 => ?_) (fun c23_32 => ?_)
      · -- taken at 32
        exact g_sub (L' := [(0, .ref (r 7)), (1, .int x1), (2, .int x2), (3, .int y0)]) [1, 2, 3, 0] rfl (b47 σ x1 x2 y0 inv kp)
      · -- not taken at 32
        refine g_aload_n hF d_X2_named_35 rfl 1 rfl ?_
        refine g_get (v := .ref (r 5)) hF 3 obC_7 (by decide) m_459 rfl d_X2_named_36 ?_
        refine g_iload_n hF d_X2_named_39 rfl 0 rfl ?_
        refine g_iconst hF (v := 1) d_X2_named_40 (by decide) ?_
        refine g_callVN (As := [.int y0, .int 1]) (rest := []) hF (c_X8_is a g r σ y0 (1 : Int32) inv) (Nat.le_of_ble_eq_true rfl) mV_X8_is nm_1121 (recv_ob obC_5) rfl rfl (Nat.le_of_ble_eq_true rfl) d_X2_named_41 (k_roz (fun r24 hz24 => ?_))
        refine g_if_eq hF 53 d_X2_named_44 (by decide) rfl (fun c25_44 => ?_) (fun c25_44 => ?_)
        · -- taken at 44
          exact g_sub (L' := [(0, .ref (r 7)), (1, .int x1), (2, .int x2), (3, .int y0)]) [1, 2, 3, 0] rfl (b53 σ x1 x2 y0 inv kp)
        · -- not taken at 44
          exact g_sub (L' := [(0, .ref (r 7)), (1, .int x1), (2, .int x2), (3, .int y0)]) [1, 2, 3, 0] rfl (b47 σ x1 x2 y0 inv kp)
  have kp : Keep [(4, 1), (6, 3), (6, 4), (7, 7)] [24, 25, 43] σ0 σ0 := keep_rf
  refine g_aload_n hF d_X2_named_0 rfl 0 rfl ?_
  refine g_get (v := .ref (r 6)) hF 2 obC_7 (by decide) m_458 rfl d_X2_named_1 ?_
  refine g_iconst hF (v := 0) d_X2_named_4 (by decide) ?_
  refine g_iload_n hF d_X2_named_5 rfl 1 rfl ?_
  refine g_callVN (As := [.int 0, .int a1]) (rest := []) hF (c_X11_localFrom a g r σ0 (0 : Int32) a1 (by show 0 ≤ 0; have e0 : (0 : Int32).toInt = 0 := (by decide); have e1 := s_rng a1; omega) i0) (Nat.le_of_ble_eq_true rfl) mV_X11_localFrom nm_1108 (recv_ob obC_6) rfl rfl (Nat.le_of_ble_eq_true rfl) d_X2_named_6 (k_ro (fun r26 => ?_))
  refine g_istore_n hF [(2, .int r26), (0, .ref (r 7)), (1, .int a1)] d_X2_named_9 rfl hnn (by decide) rfl ?_
  refine g_iload_n hF d_X2_named_10 rfl 0 rfl ?_
  refine g_if_ge hF 25 d_X2_named_11 (by decide) rfl (fun c27_11 => ?_) (fun c27_11 => ?_)
  · -- taken at 11
    refine g_iconst hF (v := (-1)) d_X2_named_25 (by decide) ?_
    exact g_sub (L' := [(0, .ref (r 7)), (1, .int a1), (2, .int r26)]) [1, 2, 0] rfl (b26 σ0 a1 r26 ((-1) : Int32) i0 kp)
  · -- not taken at 11
    refine g_aload_n hF d_X2_named_14 rfl 1 rfl ?_
    refine g_get (v := .ref (r 6)) hF 2 obC_7 (by decide) m_458 rfl d_X2_named_15 ?_
    refine g_iload_n hF d_X2_named_18 rfl 2 rfl ?_
    refine g_callVN (As := [.int a1]) (rest := []) hF (c_X11_outerOf a g r σ0 a1 i0) (Nat.le_of_ble_eq_true rfl) mV_X11_outerOf nm_1117 (recv_ob obC_6) rfl rfl (Nat.le_of_ble_eq_true rfl) d_X2_named_19 (k_ro (fun r28 => ?_))
    refine g_goto hF 26 d_X2_named_22 (by decide) ?_
    exact g_sub (L' := [(0, .ref (r 7)), (1, .int a1), (2, .int r26)]) [1, 2, 0] rfl (b26 σ0 a1 r26 r28 i0 kp)
