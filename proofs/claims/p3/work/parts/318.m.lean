set_option maxHeartbeats 4000000 in
set_option maxRecDepth 100000 in
theorem c_X2_binary (a : Nat → Nat) (g : Nat → Nat → Int32) (r : Nat → Nat) (σ0 : St) (a1 : Int32) (i0 : Inv σ0) (l : Launch) (D : va_G) (cy : Nat → ClassId) : Ct l D cy SC r (EC a g) y_X2_binary (Cond.code y_X2_binary b_X2_binary 6 none) 3 [.ref (r 7), .int a1] σ0 Z0 [] (QV (fun σ9 => (Inv σ9 ∧ Keep [(4, 1), (6, 3), (6, 4), (7, 7)] [24] σ0 σ9))) QF := by
  refine Ct_of (EC_ok a g) (by decide) (Nat.le_of_ble_eq_true rfl) (by decide) (fun X hnn hF => ?_)
  show G SC r X σ0 Z0 [] [(0, .ref (r 7)), (1, .int a1)] [] 0
  have kp : Keep [(4, 1), (6, 3), (6, 4), (7, 7)] [24] σ0 σ0 := keep_rf
  refine g_aload_n hF d_X2_binary_0 rfl 0 rfl ?_
  refine g_iload_n hF d_X2_binary_1 rfl 1 rfl ?_
  refine g_callV (As := [.int a1]) (rest := []) hF (c_X2_kindOf a g r σ0 a1 i0) (Nat.le_of_ble_eq_true rfl) mV_X2_kindOf m_1194 (recv_ob obC_7) rfl rfl (Nat.le_of_ble_eq_true rfl) d_X2_binary_2 (k_ro (fun r1 => ?_)) (fun _ _ _ h => h.elim)
  refine g_istore_n hF [(2, .int r1), (0, .ref (r 7)), (1, .int a1)] d_X2_binary_5 rfl hnn (by decide) rfl ?_
  refine g_aload_n hF d_X2_binary_6 rfl 1 rfl ?_
  refine g_callV (As := []) (rest := []) hF (c_X2_pop a g r σ0 i0) (Nat.le_of_ble_eq_true rfl) mV_X2_pop m_1156 (recv_ob obC_7) rfl rfl (Nat.le_of_ble_eq_true rfl) d_X2_binary_7 (k_a (fun q2 σ2 ⟨hq2, iσ2, ik2⟩ => ?_)) (fun _ _ _ h => h.elim)
  have kp : Keep [(4, 1), (6, 3), (6, 4), (7, 7)] [24] σ0 σ2 := keep_c kp ik2 (by decide) (by decide)
  refine g_astore_n hF [(3, .ref (r q2)), (2, .int r1), (0, .ref (r 7)), (1, .int a1)] d_X2_binary_10 rfl hnn (by decide) rfl ?_
  refine g_aload_n hF d_X2_binary_11 rfl 2 rfl ?_
  refine g_callV (As := []) (rest := []) hF (c_X2_top a g r σ2 iσ2) (Nat.le_of_ble_eq_true rfl) mV_X2_top m_1160 (recv_ob obC_7) rfl rfl (Nat.le_of_ble_eq_true rfl) d_X2_binary_12 (k_roa (fun q3 hq3 => ?_)) (fun _ _ _ h => h.elim)
  refine g_astore hF [(4, .ref (r q3)), (3, .ref (r q2)), (2, .int r1), (0, .ref (r 7)), (1, .int a1)] d_X2_binary_15 hnn (by decide) rfl ?_
  refine g_iload_n hF d_X2_binary_17 rfl 2 rfl ?_
  refine g_aload hF d_X2_binary_18 0 rfl ?_
  refine g_aload_n hF d_X2_binary_20 rfl 1 rfl ?_
  refine g_callS (As := [.int r1, .ref (r q3), .ref (r q2)]) (rest := []) hF (c_X2_typeOf a g r σ2 r1 q3 hq3 q2 hq2 iσ2) (Nat.le_of_ble_eq_true rfl) mS_X2_typeOf m_1206 rfl rfl (Nat.le_of_ble_eq_true rfl) d_X2_binary_21 (k_ro (fun r4 => ?_)) (fun _ _ _ h => h.elim)
  refine g_istore hF [(5, .int r4), (4, .ref (r q3)), (3, .ref (r q2)), (2, .int r1), (0, .ref (r 7)), (1, .int a1)] d_X2_binary_24 hnn (by decide) rfl ?_
  refine g_iload hF d_X2_binary_26 0 rfl ?_
  refine g_bipush hF (v := (-2)) d_X2_binary_28 (by decide) ?_
  refine g_icmp_ne (yv := -2) hF 38 d_X2_binary_30 (by decide) rfl (by decide) (fun c5_30 => ?_) (fun c5_30 => ?_)
  · -- taken at 30
    refine g_iload_n hF d_X2_binary_38 rfl 3 rfl ?_
    refine g_bipush hF (v := 58) d_X2_binary_39 (by decide) ?_
    refine g_icmp_eq (yv := 58) hF 50 d_X2_binary_41 (by decide) rfl (by decide) (fun c6_41 => ?_) (fun c6_41 => ?_)
    · -- taken at 41
      refine g_aload_n hF d_X2_binary_50 rfl 4 rfl ?_
      refine g_get (v := .ref (r 4)) hF 4 obC_7 (by decide) m_461 rfl d_X2_binary_51 ?_
      refine g_bipush hF (v := 25) d_X2_binary_54 (by decide) ?_
      refine g_iconst hF (v := 0) d_X2_binary_56 (by decide) ?_
      refine g_iconst hF (v := 0) d_X2_binary_57 (by decide) ?_
      refine g_iconst hF (v := 0) d_X2_binary_58 (by decide) ?_
      refine g_callVN (As := [.int 25, .int 0, .int 0, .int 0]) (rest := []) hF (c_X0_emit a g r σ2 (25 : Int32) (0 : Int32) (0 : Int32) (0 : Int32) iσ2) (Nat.le_of_ble_eq_true rfl) mV_X0_emit nm_1071 (recv_ob obC_4) rfl rfl (Nat.le_of_ble_eq_true rfl) d_X2_binary_59 (k_i (fun r7 σ7 ⟨iσ7, ik7⟩ => ?_))
      have kp : Keep [(4, 1), (6, 3), (6, 4), (7, 7)] [24] σ0 σ7 := keep_c kp ik7 (by decide) (by decide)
      refine g_pop hF d_X2_binary_62 rfl ?_
      refine g_aload_n hF d_X2_binary_63 rfl 4 rfl ?_
      refine g_get (v := .ref (r 4)) hF 4 obC_7 (by decide) m_461 rfl d_X2_binary_64 ?_
      refine g_aload hF d_X2_binary_67 1 rfl ?_
      refine g_getN hF 10 (obC_op hq3) (by decide) nm_424 (fval_op hq3) d_X2_binary_69 ?_
      refine g_any (fun v8 => ?_)
      refine g_aload_n hF d_X2_binary_72 rfl 4 rfl ?_
      refine g_get (v := .ref (r 4)) hF 4 obC_7 (by decide) m_461 rfl d_X2_binary_73 ?_
      refine g_getN (v := .int (σ7 4 1)) hF 1 obC_4 (by decide) nm_155 rfl d_X2_binary_76 ?_
      refine g_callVN (As := [.int v8, .int (σ7 4 1)]) (rest := []) hF (c_X0_aim a g r σ7 v8 (σ7 4 1) iσ7) (Nat.le_of_ble_eq_true rfl) mV_X0_aim nm_1209 (recv_ob obC_4) rfl rfl (Nat.le_of_ble_eq_true rfl) d_X2_binary_79 (k_v (fun σ9 ⟨iσ9, ik9⟩ => ?_))
      have kp : Keep [(4, 1), (6, 3), (6, 4), (7, 7)] [24] σ0 σ9 := keep_c kp ik9 (by decide) (by decide)
      refine g_goto hF 108 d_X2_binary_82 (by decide) ?_
      refine g_iload_n hF d_X2_binary_108 rfl 3 rfl ?_
      refine g_aload hF d_X2_binary_109 1 rfl ?_
      refine g_aload_n hF d_X2_binary_111 rfl 2 rfl ?_
      refine g_callS (As := [.int r1, .ref (r q3), .ref (r q2)]) (rest := []) hF (c_X2_combine a g r σ9 r1 q3 hq3 q2 hq2 iσ9) (Nat.le_of_ble_eq_true rfl) mS_X2_combine m_1219 rfl rfl (Nat.le_of_ble_eq_true rfl) d_X2_binary_112 (k_v (fun σ10 ⟨iσ10, ik10⟩ => ?_)) (fun _ _ _ h => h.elim)
      have kp : Keep [(4, 1), (6, 3), (6, 4), (7, 7)] [24] σ0 σ10 := keep_c kp ik10 (by decide) (by decide)
      refine g_aload hF d_X2_binary_115 1 rfl ?_
      refine g_iload hF d_X2_binary_117 0 rfl ?_
      refine g_aload hF d_X2_binary_119 1 rfl ?_
      refine g_getN hF 6 (obC_op hq3) (by decide) nm_412 (fval_op hq3) d_X2_binary_121 ?_
      refine g_any (fun v11 => ?_)
      refine g_callVN (As := [.int r4, .int v11]) (rest := []) hF (c_X6_become a g r σ10 r4 v11 q3 hq3 iσ10) (Nat.le_of_ble_eq_true rfl) mV_X6_become nm_1100 (recv_ob (obC_op hq3)) rfl rfl (Nat.le_of_ble_eq_true rfl) d_X2_binary_124 (k_v (fun σ12 ⟨iσ12, ik12⟩ => ?_))
      have kp : Keep [(4, 1), (6, 3), (6, 4), (7, 7)] [24] σ0 σ12 := keep_c kp ik12 (by decide) (by decide)
      refine g_aload_n hF d_X2_binary_127 rfl 4 rfl ?_
      refine g_aload hF d_X2_binary_128 1 rfl ?_
      refine g_callV (As := [.ref (r q3)]) (rest := []) hF (c_X2_fold a g r σ12 q3 hq3 iσ12) (Nat.le_of_ble_eq_true rfl) mV_X2_fold m_1233 (recv_ob obC_7) rfl rfl (Nat.le_of_ble_eq_true rfl) d_X2_binary_130 (k_v (fun σ13 ⟨iσ13, ik13⟩ => ?_)) (fun _ _ _ h => h.elim)
      have kp : Keep [(4, 1), (6, 3), (6, 4), (7, 7)] [24] σ0 σ13 := keep_c kp ik13 (by decide) (by decide)
      refine g_aload_n hF d_X2_binary_133 rfl 4 rfl ?_
      refine g_aload hF d_X2_binary_134 1 rfl ?_
      refine g_iconst hF (v := 1) d_X2_binary_136 (by decide) ?_
      refine g_aload hF d_X2_binary_137 1 rfl ?_
      refine g_getN hF 2 (obC_op hq3) (by decide) nm_404 (fval_op hq3) d_X2_binary_139 ?_
      refine g_any (fun v14 => ?_)
      refine g_aload_n hF d_X2_binary_142 rfl 2 rfl ?_
      refine g_getN hF 2 (obC_op hq2) (by decide) nm_404 (fval_op hq2) d_X2_binary_143 ?_
      refine g_any (fun v15 => ?_)
      refine g_mmax hF (Nat.le_of_ble_eq_true rfl) m_1130 m_1131 m_23 m_1132 (Nat.le_of_ble_eq_true rfl) d_X2_binary_146 ?_
      refine g_nm (fun v17 ev17 => ?_)
      have mv17 := s_max ev17
      refine g_iadd hF d_X2_binary_149 ?_
      refine g_iload_n hF d_X2_binary_150 rfl 5 rfl ?_
      refine g_callV (As := [.ref (r q3), .int (1 + v17), .int a1]) (rest := []) hF (c_X2_raise a g r σ13 (1 + v17) a1 q3 hq3 iσ13) (Nat.le_of_ble_eq_true rfl) mV_X2_raise m_1186 (recv_ob obC_7) rfl rfl (Nat.le_of_ble_eq_true rfl) d_X2_binary_151 (k_v (fun σ18 ⟨iσ18, ik18⟩ => ?_)) (fun _ _ _ h => h.elim)
      have kp : Keep [(4, 1), (6, 3), (6, 4), (7, 7)] [24] σ0 σ18 := keep_c kp ik18 (by decide) (by decide)
      exact g_vret hF rfl d_X2_binary_154 ⟨rfl, rfl, rfl, ⟨iσ18, kp⟩⟩
    · -- not taken at 41
      refine g_iload_n hF d_X2_binary_44 rfl 3 rfl ?_
      refine g_bipush hF (v := 57) d_X2_binary_45 (by decide) ?_
      refine g_icmp_ne (yv := 57) hF 85 d_X2_binary_47 (by decide) rfl (by decide) (fun c19_47 => ?_) (fun c19_47 => ?_)
      · -- taken at 47
        refine g_aload_n hF d_X2_binary_85 rfl 4 rfl ?_
        refine g_iload_n hF d_X2_binary_86 rfl 3 rfl ?_
        refine g_aload hF d_X2_binary_87 1 rfl ?_
        refine g_getN hF 1 (obC_op hq3) (by decide) nm_402 (fval_op hq3) d_X2_binary_89 ?_
        refine g_any (fun v20 => ?_)
        refine g_if_le hF 99 d_X2_binary_92 (by decide) rfl (fun c21_92 => ?_) (fun c21_92 => ?_)
        · -- taken at 92
          refine g_iconst hF (v := 0) d_X2_binary_99 (by decide) ?_
          refine g_aload_n hF d_X2_binary_100 rfl 4 rfl ?_
          refine g_iload_n hF d_X2_binary_101 rfl 5 rfl ?_
          refine g_callV (As := [.int a1]) (rest := [.int 0, .int r1, .ref (r 7)]) hF (c_X2_lineOf a g r σ2 a1 iσ2) (Nat.le_of_ble_eq_true rfl) mV_X2_lineOf m_1182 (recv_ob obC_7) rfl rfl (Nat.le_of_ble_eq_true rfl) d_X2_binary_102 (k_ro (fun r22 => ?_)) (fun _ _ _ h => h.elim)
          refine g_callV (As := [.int r1, .int 0, .int r22]) (rest := []) hF (c_X2_operate a g r σ2 r1 (0 : Int32) r22 iσ2 (Or.inl rfl)) (Nat.le_of_ble_eq_true rfl) mV_X2_operate m_1215 (recv_ob obC_7) rfl rfl (Nat.le_of_ble_eq_true rfl) d_X2_binary_105 (k_v (fun σ23 ⟨iσ23, ik23⟩ => ?_)) (fun _ _ _ h => h.elim)
          have kp : Keep [(4, 1), (6, 3), (6, 4), (7, 7)] [24] σ0 σ23 := keep_c kp ik23 (by decide) (by decide)
          refine g_iload_n hF d_X2_binary_108 rfl 3 rfl ?_
          refine g_aload hF d_X2_binary_109 1 rfl ?_
          refine g_aload_n hF d_X2_binary_111 rfl 2 rfl ?_
          refine g_callS (As := [.int r1, .ref (r q3), .ref (r q2)]) (rest := []) hF (c_X2_combine a g r σ23 r1 q3 hq3 q2 hq2 iσ23) (Nat.le_of_ble_eq_true rfl) mS_X2_combine m_1219 rfl rfl (Nat.le_of_ble_eq_true rfl) d_X2_binary_112 (k_v (fun σ24 ⟨iσ24, ik24⟩ => ?_)) (fun _ _ _ h => h.elim)
          have kp : Keep [(4, 1), (6, 3), (6, 4), (7, 7)] [24] σ0 σ24 := keep_c kp ik24 (by decide) (by decide)
          refine g_aload hF d_X2_binary_115 1 rfl ?_
          refine g_iload hF d_X2_binary_117 0 rfl ?_
          refine g_aload hF d_X2_binary_119 1 rfl ?_
          refine g_getN hF 6 (obC_op hq3) (by decide) nm_412 (fval_op hq3) d_X2_binary_121 ?_
          refine g_any (fun v25 => ?_)
          refine g_callVN (As := [.int r4, .int v25]) (rest := []) hF (c_X6_become a g r σ24 r4 v25 q3 hq3 iσ24) (Nat.le_of_ble_eq_true rfl) mV_X6_become nm_1100 (recv_ob (obC_op hq3)) rfl rfl (Nat.le_of_ble_eq_true rfl) d_X2_binary_124 (k_v (fun σ26 ⟨iσ26, ik26⟩ => ?_))
          have kp : Keep [(4, 1), (6, 3), (6, 4), (7, 7)] [24] σ0 σ26 := keep_c kp ik26 (by decide) (by decide)
          refine g_aload_n hF d_X2_binary_127 rfl 4 rfl ?_
          refine g_aload hF d_X2_binary_128 1 rfl ?_
          refine g_callV (As := [.ref (r q3)]) (rest := []) hF (c_X2_fold a g r σ26 q3 hq3 iσ26) (Nat.le_of_ble_eq_true rfl) mV_X2_fold m_1233 (recv_ob obC_7) rfl rfl (Nat.le_of_ble_eq_true rfl) d_X2_binary_130 (k_v (fun σ27 ⟨iσ27, ik27⟩ => ?_)) (fun _ _ _ h => h.elim)
          have kp : Keep [(4, 1), (6, 3), (6, 4), (7, 7)] [24] σ0 σ27 := keep_c kp ik27 (by decide) (by decide)
          refine g_aload_n hF d_X2_binary_133 rfl 4 rfl ?_
          refine g_aload hF d_X2_binary_134 1 rfl ?_
          refine g_iconst hF (v := 1) d_X2_binary_136 (by decide) ?_
          refine g_aload hF d_X2_binary_137 1 rfl ?_
          refine g_getN hF 2 (obC_op hq3) (by decide) nm_404 (fval_op hq3) d_X2_binary_139 ?_
          refine g_any (fun v28 => ?_)
          refine g_aload_n hF d_X2_binary_142 rfl 2 rfl ?_
          refine g_getN hF 2 (obC_op hq2) (by decide) nm_404 (fval_op hq2) d_X2_binary_143 ?_
          refine g_any (fun v29 => ?_)
          refine g_mmax hF (Nat.le_of_ble_eq_true rfl) m_1130 m_1131 m_23 m_1132 (Nat.le_of_ble_eq_true rfl) d_X2_binary_146 ?_
          refine g_nm (fun v31 ev31 => ?_)
          have mv31 := s_max ev31
          refine g_iadd hF d_X2_binary_149 ?_
          refine g_iload_n hF d_X2_binary_150 rfl 5 rfl ?_
          refine g_callV (As := [.ref (r q3), .int (1 + v31), .int a1]) (rest := []) hF (c_X2_raise a g r σ27 (1 + v31) a1 q3 hq3 iσ27) (Nat.le_of_ble_eq_true rfl) mV_X2_raise m_1186 (recv_ob obC_7) rfl rfl (Nat.le_of_ble_eq_true rfl) d_X2_binary_151 (k_v (fun σ32 ⟨iσ32, ik32⟩ => ?_)) (fun _ _ _ h => h.elim)
          have kp : Keep [(4, 1), (6, 3), (6, 4), (7, 7)] [24] σ0 σ32 := keep_c kp ik32 (by decide) (by decide)
          exact g_vret hF rfl d_X2_binary_154 ⟨rfl, rfl, rfl, ⟨iσ32, kp⟩⟩
        · -- not taken at 92
          refine g_iconst hF (v := 1) d_X2_binary_95 (by decide) ?_
          refine g_goto hF 100 d_X2_binary_96 (by decide) ?_
          refine g_aload_n hF d_X2_binary_100 rfl 4 rfl ?_
          refine g_iload_n hF d_X2_binary_101 rfl 5 rfl ?_
          refine g_callV (As := [.int a1]) (rest := [.int 1, .int r1, .ref (r 7)]) hF (c_X2_lineOf a g r σ2 a1 iσ2) (Nat.le_of_ble_eq_true rfl) mV_X2_lineOf m_1182 (recv_ob obC_7) rfl rfl (Nat.le_of_ble_eq_true rfl) d_X2_binary_102 (k_ro (fun r33 => ?_)) (fun _ _ _ h => h.elim)
          refine g_callV (As := [.int r1, .int 1, .int r33]) (rest := []) hF (c_X2_operate a g r σ2 r1 (1 : Int32) r33 iσ2 (Or.inr rfl)) (Nat.le_of_ble_eq_true rfl) mV_X2_operate m_1215 (recv_ob obC_7) rfl rfl (Nat.le_of_ble_eq_true rfl) d_X2_binary_105 (k_v (fun σ34 ⟨iσ34, ik34⟩ => ?_)) (fun _ _ _ h => h.elim)
          have kp : Keep [(4, 1), (6, 3), (6, 4), (7, 7)] [24] σ0 σ34 := keep_c kp ik34 (by decide) (by decide)
          refine g_iload_n hF d_X2_binary_108 rfl 3 rfl ?_
          refine g_aload hF d_X2_binary_109 1 rfl ?_
          refine g_aload_n hF d_X2_binary_111 rfl 2 rfl ?_
          refine g_callS (As := [.int r1, .ref (r q3), .ref (r q2)]) (rest := []) hF (c_X2_combine a g r σ34 r1 q3 hq3 q2 hq2 iσ34) (Nat.le_of_ble_eq_true rfl) mS_X2_combine m_1219 rfl rfl (Nat.le_of_ble_eq_true rfl) d_X2_binary_112 (k_v (fun σ35 ⟨iσ35, ik35⟩ => ?_)) (fun _ _ _ h => h.elim)
          have kp : Keep [(4, 1), (6, 3), (6, 4), (7, 7)] [24] σ0 σ35 := keep_c kp ik35 (by decide) (by decide)
          refine g_aload hF d_X2_binary_115 1 rfl ?_
          refine g_iload hF d_X2_binary_117 0 rfl ?_
          refine g_aload hF d_X2_binary_119 1 rfl ?_
          refine g_getN hF 6 (obC_op hq3) (by decide) nm_412 (fval_op hq3) d_X2_binary_121 ?_
          refine g_any (fun v36 => ?_)
          refine g_callVN (As := [.int r4, .int v36]) (rest := []) hF (c_X6_become a g r σ35 r4 v36 q3 hq3 iσ35) (Nat.le_of_ble_eq_true rfl) mV_X6_become nm_1100 (recv_ob (obC_op hq3)) rfl rfl (Nat.le_of_ble_eq_true rfl) d_X2_binary_124 (k_v (fun σ37 ⟨iσ37, ik37⟩ => ?_))
          have kp : Keep [(4, 1), (6, 3), (6, 4), (7, 7)] [24] σ0 σ37 := keep_c kp ik37 (by decide) (by decide)
          refine g_aload_n hF d_X2_binary_127 rfl 4 rfl ?_
          refine g_aload hF d_X2_binary_128 1 rfl ?_
          refine g_callV (As := [.ref (r q3)]) (rest := []) hF (c_X2_fold a g r σ37 q3 hq3 iσ37) (Nat.le_of_ble_eq_true rfl) mV_X2_fold m_1233 (recv_ob obC_7) rfl rfl (Nat.le_of_ble_eq_true rfl) d_X2_binary_130 (k_v (fun σ38 ⟨iσ38, ik38⟩ => ?_)) (fun _ _ _ h => h.elim)
          have kp : Keep [(4, 1), (6, 3), (6, 4), (7, 7)] [24] σ0 σ38 := keep_c kp ik38 (by decide) (by decide)
          refine g_aload_n hF d_X2_binary_133 rfl 4 rfl ?_
          refine g_aload hF d_X2_binary_134 1 rfl ?_
          refine g_iconst hF (v := 1) d_X2_binary_136 (by decide) ?_
          refine g_aload hF d_X2_binary_137 1 rfl ?_
          refine g_getN hF 2 (obC_op hq3) (by decide) nm_404 (fval_op hq3) d_X2_binary_139 ?_
          refine g_any (fun v39 => ?_)
          refine g_aload_n hF d_X2_binary_142 rfl 2 rfl ?_
          refine g_getN hF 2 (obC_op hq2) (by decide) nm_404 (fval_op hq2) d_X2_binary_143 ?_
          refine g_any (fun v40 => ?_)
          refine g_mmax hF (Nat.le_of_ble_eq_true rfl) m_1130 m_1131 m_23 m_1132 (Nat.le_of_ble_eq_true rfl) d_X2_binary_146 ?_
          refine g_nm (fun v42 ev42 => ?_)
          have mv42 := s_max ev42
          refine g_iadd hF d_X2_binary_149 ?_
          refine g_iload_n hF d_X2_binary_150 rfl 5 rfl ?_
          refine g_callV (As := [.ref (r q3), .int (1 + v42), .int a1]) (rest := []) hF (c_X2_raise a g r σ38 (1 + v42) a1 q3 hq3 iσ38) (Nat.le_of_ble_eq_true rfl) mV_X2_raise m_1186 (recv_ob obC_7) rfl rfl (Nat.le_of_ble_eq_true rfl) d_X2_binary_151 (k_v (fun σ43 ⟨iσ43, ik43⟩ => ?_)) (fun _ _ _ h => h.elim)
          have kp : Keep [(4, 1), (6, 3), (6, 4), (7, 7)] [24] σ0 σ43 := keep_c kp ik43 (by decide) (by decide)
          exact g_vret hF rfl d_X2_binary_154 ⟨rfl, rfl, rfl, ⟨iσ43, kp⟩⟩
      · -- not taken at 47
        refine g_aload_n hF d_X2_binary_50 rfl 4 rfl ?_
        refine g_get (v := .ref (r 4)) hF 4 obC_7 (by decide) m_461 rfl d_X2_binary_51 ?_
        refine g_bipush hF (v := 25) d_X2_binary_54 (by decide) ?_
        refine g_iconst hF (v := 0) d_X2_binary_56 (by decide) ?_
        refine g_iconst hF (v := 0) d_X2_binary_57 (by decide) ?_
        refine g_iconst hF (v := 0) d_X2_binary_58 (by decide) ?_
        refine g_callVN (As := [.int 25, .int 0, .int 0, .int 0]) (rest := []) hF (c_X0_emit a g r σ2 (25 : Int32) (0 : Int32) (0 : Int32) (0 : Int32) iσ2) (Nat.le_of_ble_eq_true rfl) mV_X0_emit nm_1071 (recv_ob obC_4) rfl rfl (Nat.le_of_ble_eq_true rfl) d_X2_binary_59 (k_i (fun r44 σ44 ⟨iσ44, ik44⟩ => ?_))
        have kp : Keep [(4, 1), (6, 3), (6, 4), (7, 7)] [24] σ0 σ44 := keep_c kp ik44 (by decide) (by decide)
        refine g_pop hF d_X2_binary_62 rfl ?_
        refine g_aload_n hF d_X2_binary_63 rfl 4 rfl ?_
        refine g_get (v := .ref (r 4)) hF 4 obC_7 (by decide) m_461 rfl d_X2_binary_64 ?_
        refine g_aload hF d_X2_binary_67 1 rfl ?_
        refine g_getN hF 10 (obC_op hq3) (by decide) nm_424 (fval_op hq3) d_X2_binary_69 ?_
        refine g_any (fun v45 => ?_)
        refine g_aload_n hF d_X2_binary_72 rfl 4 rfl ?_
        refine g_get (v := .ref (r 4)) hF 4 obC_7 (by decide) m_461 rfl d_X2_binary_73 ?_
        refine g_getN (v := .int (σ44 4 1)) hF 1 obC_4 (by decide) nm_155 rfl d_X2_binary_76 ?_
        refine g_callVN (As := [.int v45, .int (σ44 4 1)]) (rest := []) hF (c_X0_aim a g r σ44 v45 (σ44 4 1) iσ44) (Nat.le_of_ble_eq_true rfl) mV_X0_aim nm_1209 (recv_ob obC_4) rfl rfl (Nat.le_of_ble_eq_true rfl) d_X2_binary_79 (k_v (fun σ46 ⟨iσ46, ik46⟩ => ?_))
        have kp : Keep [(4, 1), (6, 3), (6, 4), (7, 7)] [24] σ0 σ46 := keep_c kp ik46 (by decide) (by decide)
        refine g_goto hF 108 d_X2_binary_82 (by decide) ?_
        refine g_iload_n hF d_X2_binary_108 rfl 3 rfl ?_
        refine g_aload hF d_X2_binary_109 1 rfl ?_
        refine g_aload_n hF d_X2_binary_111 rfl 2 rfl ?_
        refine g_callS (As := [.int r1, .ref (r q3), .ref (r q2)]) (rest := []) hF (c_X2_combine a g r σ46 r1 q3 hq3 q2 hq2 iσ46) (Nat.le_of_ble_eq_true rfl) mS_X2_combine m_1219 rfl rfl (Nat.le_of_ble_eq_true rfl) d_X2_binary_112 (k_v (fun σ47 ⟨iσ47, ik47⟩ => ?_)) (fun _ _ _ h => h.elim)
        have kp : Keep [(4, 1), (6, 3), (6, 4), (7, 7)] [24] σ0 σ47 := keep_c kp ik47 (by decide) (by decide)
        refine g_aload hF d_X2_binary_115 1 rfl ?_
        refine g_iload hF d_X2_binary_117 0 rfl ?_
        refine g_aload hF d_X2_binary_119 1 rfl ?_
        refine g_getN hF 6 (obC_op hq3) (by decide) nm_412 (fval_op hq3) d_X2_binary_121 ?_
        refine g_any (fun v48 => ?_)
        refine g_callVN (As := [.int r4, .int v48]) (rest := []) hF (c_X6_become a g r σ47 r4 v48 q3 hq3 iσ47) (Nat.le_of_ble_eq_true rfl) mV_X6_become nm_1100 (recv_ob (obC_op hq3)) rfl rfl (Nat.le_of_ble_eq_true rfl) d_X2_binary_124 (k_v (fun σ49 ⟨iσ49, ik49⟩ => ?_))
        have kp : Keep [(4, 1), (6, 3), (6, 4), (7, 7)] [24] σ0 σ49 := keep_c kp ik49 (by decide) (by decide)
        refine g_aload_n hF d_X2_binary_127 rfl 4 rfl ?_
        refine g_aload hF d_X2_binary_128 1 rfl ?_
        refine g_callV (As := [.ref (r q3)]) (rest := []) hF (c_X2_fold a g r σ49 q3 hq3 iσ49) (Nat.le_of_ble_eq_true rfl) mV_X2_fold m_1233 (recv_ob obC_7) rfl rfl (Nat.le_of_ble_eq_true rfl) d_X2_binary_130 (k_v (fun σ50 ⟨iσ50, ik50⟩ => ?_)) (fun _ _ _ h => h.elim)
        have kp : Keep [(4, 1), (6, 3), (6, 4), (7, 7)] [24] σ0 σ50 := keep_c kp ik50 (by decide) (by decide)
        refine g_aload_n hF d_X2_binary_133 rfl 4 rfl ?_
        refine g_aload hF d_X2_binary_134 1 rfl ?_
        refine g_iconst hF (v := 1) d_X2_binary_136 (by decide) ?_
        refine g_aload hF d_X2_binary_137 1 rfl ?_
        refine g_getN hF 2 (obC_op hq3) (by decide) nm_404 (fval_op hq3) d_X2_binary_139 ?_
        refine g_any (fun v51 => ?_)
        refine g_aload_n hF d_X2_binary_142 rfl 2 rfl ?_
        refine g_getN hF 2 (obC_op hq2) (by decide) nm_404 (fval_op hq2) d_X2_binary_143 ?_
        refine g_any (fun v52 => ?_)
        refine g_mmax hF (Nat.le_of_ble_eq_true rfl) m_1130 m_1131 m_23 m_1132 (Nat.le_of_ble_eq_true rfl) d_X2_binary_146 ?_
        refine g_nm (fun v54 ev54 => ?_)
        have mv54 := s_max ev54
        refine g_iadd hF d_X2_binary_149 ?_
        refine g_iload_n hF d_X2_binary_150 rfl 5 rfl ?_
        refine g_callV (As := [.ref (r q3), .int (1 + v54), .int a1]) (rest := []) hF (c_X2_raise a g r σ50 (1 + v54) a1 q3 hq3 iσ50) (Nat.le_of_ble_eq_true rfl) mV_X2_raise m_1186 (recv_ob obC_7) rfl rfl (Nat.le_of_ble_eq_true rfl) d_X2_binary_151 (k_v (fun σ55 ⟨iσ55, ik55⟩ => ?_)) (fun _ _ _ h => h.elim)
        have kp : Keep [(4, 1), (6, 3), (6, 4), (7, 7)] [24] σ0 σ55 := keep_c kp ik55 (by decide) (by decide)
        exact g_vret hF rfl d_X2_binary_154 ⟨rfl, rfl, rfl, ⟨iσ55, kp⟩⟩
  · -- not taken at 30
    refine g_aload_n hF d_X2_binary_33 rfl 4 rfl ?_
    refine g_iload_n hF d_X2_binary_34 rfl 5 rfl ?_
    refine g_callV (As := [.int a1]) (rest := []) hF (c_X2_refuse a g r σ2 a1 iσ2) (Nat.le_of_ble_eq_true rfl) mV_X2_refuse m_1126 (recv_ob obC_7) rfl rfl (Nat.le_of_ble_eq_true rfl) d_X2_binary_35 (k_v (fun σ56 ⟨iσ56, ik56⟩ => ?_)) (fun _ _ _ h => h.elim)
    have kp : Keep [(4, 1), (6, 3), (6, 4), (7, 7)] [24] σ0 σ56 := keep_c kp ik56 (by decide) (by decide)
    refine g_iload_n hF d_X2_binary_38 rfl 3 rfl ?_
    refine g_bipush hF (v := 58) d_X2_binary_39 (by decide) ?_
    refine g_icmp_eq (yv := 58) hF 50 d_X2_binary_41 (by decide) rfl (by decide) (fun c57_41 => ?_) (fun c57_41 => ?_)
    · -- taken at 41
      refine g_aload_n hF d_X2_binary_50 rfl 4 rfl ?_
      refine g_get (v := .ref (r 4)) hF 4 obC_7 (by decide) m_461 rfl d_X2_binary_51 ?_
      refine g_bipush hF (v := 25) d_X2_binary_54 (by decide) ?_
      refine g_iconst hF (v := 0) d_X2_binary_56 (by decide) ?_
      refine g_iconst hF (v := 0) d_X2_binary_57 (by decide) ?_
      refine g_iconst hF (v := 0) d_X2_binary_58 (by decide) ?_
      refine g_callVN (As := [.int 25, .int 0, .int 0, .int 0]) (rest := []) hF (c_X0_emit a g r σ56 (25 : Int32) (0 : Int32) (0 : Int32) (0 : Int32) iσ56) (Nat.le_of_ble_eq_true rfl) mV_X0_emit nm_1071 (recv_ob obC_4) rfl rfl (Nat.le_of_ble_eq_true rfl) d_X2_binary_59 (k_i (fun r58 σ58 ⟨iσ58, ik58⟩ => ?_))
      have kp : Keep [(4, 1), (6, 3), (6, 4), (7, 7)] [24] σ0 σ58 := keep_c kp ik58 (by decide) (by decide)
      refine g_pop hF d_X2_binary_62 rfl ?_
      refine g_aload_n hF d_X2_binary_63 rfl 4 rfl ?_
      refine g_get (v := .ref (r 4)) hF 4 obC_7 (by decide) m_461 rfl d_X2_binary_64 ?_
      refine g_aload hF d_X2_binary_67 1 rfl ?_
      refine g_getN hF 10 (obC_op hq3) (by decide) nm_424 (fval_op hq3) d_X2_binary_69 ?_
      refine g_any (fun v59 => ?_)
      refine g_aload_n hF d_X2_binary_72 rfl 4 rfl ?_
      refine g_get (v := .ref (r 4)) hF 4 obC_7 (by decide) m_461 rfl d_X2_binary_73 ?_
      refine g_getN (v := .int (σ58 4 1)) hF 1 obC_4 (by decide) nm_155 rfl d_X2_binary_76 ?_
      refine g_callVN (As := [.int v59, .int (σ58 4 1)]) (rest := []) hF (c_X0_aim a g r σ58 v59 (σ58 4 1) iσ58) (Nat.le_of_ble_eq_true rfl) mV_X0_aim nm_1209 (recv_ob obC_4) rfl rfl (Nat.le_of_ble_eq_true rfl) d_X2_binary_79 (k_v (fun σ60 ⟨iσ60, ik60⟩ => ?_))
      have kp : Keep [(4, 1), (6, 3), (6, 4), (7, 7)] [24] σ0 σ60 := keep_c kp ik60 (by decide) (by decide)
      refine g_goto hF 108 d_X2_binary_82 (by decide) ?_
      refine g_iload_n hF d_X2_binary_108 rfl 3 rfl ?_
      refine g_aload hF d_X2_binary_109 1 rfl ?_
      refine g_aload_n hF d_X2_binary_111 rfl 2 rfl ?_
      refine g_callS (As := [.int r1, .ref (r q3), .ref (r q2)]) (rest := []) hF (c_X2_combine a g r σ60 r1 q3 hq3 q2 hq2 iσ60) (Nat.le_of_ble_eq_true rfl) mS_X2_combine m_1219 rfl rfl (Nat.le_of_ble_eq_true rfl) d_X2_binary_112 (k_v (fun σ61 ⟨iσ61, ik61⟩ => ?_)) (fun _ _ _ h => h.elim)
      have kp : Keep [(4, 1), (6, 3), (6, 4), (7, 7)] [24] σ0 σ61 := keep_c kp ik61 (by decide) (by decide)
      refine g_aload hF d_X2_binary_115 1 rfl ?_
      refine g_iload hF d_X2_binary_117 0 rfl ?_
      refine g_aload hF d_X2_binary_119 1 rfl ?_
      refine g_getN hF 6 (obC_op hq3) (by decide) nm_412 (fval_op hq3) d_X2_binary_121 ?_
      refine g_any (fun v62 => ?_)
      refine g_callVN (As := [.int r4, .int v62]) (rest := []) hF (c_X6_become a g r σ61 r4 v62 q3 hq3 iσ61) (Nat.le_of_ble_eq_true rfl) mV_X6_become nm_1100 (recv_ob (obC_op hq3)) rfl rfl (Nat.le_of_ble_eq_true rfl) d_X2_binary_124 (k_v (fun σ63 ⟨iσ63, ik63⟩ => ?_))
      have kp : Keep [(4, 1), (6, 3), (6, 4), (7, 7)] [24] σ0 σ63 := keep_c kp ik63 (by decide) (by decide)
      refine g_aload_n hF d_X2_binary_127 rfl 4 rfl ?_
      refine g_aload hF d_X2_binary_128 1 rfl ?_
      refine g_callV (As := [.ref (r q3)]) (rest := []) hF (c_X2_fold a g r σ63 q3 hq3 iσ63) (Nat.le_of_ble_eq_true rfl) mV_X2_fold m_1233 (recv_ob obC_7) rfl rfl (Nat.le_of_ble_eq_true rfl) d_X2_binary_130 (k_v (fun σ64 ⟨iσ64, ik64⟩ => ?_)) (fun _ _ _ h => h.elim)
      have kp : Keep [(4, 1), (6, 3), (6, 4), (7, 7)] [24] σ0 σ64 := keep_c kp ik64 (by decide) (by decide)
      refine g_aload_n hF d_X2_binary_133 rfl 4 rfl ?_
      refine g_aload hF d_X2_binary_134 1 rfl ?_
      refine g_iconst hF (v := 1) d_X2_binary_136 (by decide) ?_
      refine g_aload hF d_X2_binary_137 1 rfl ?_
      refine g_getN hF 2 (obC_op hq3) (by decide) nm_404 (fval_op hq3) d_X2_binary_139 ?_
      refine g_any (fun v65 => ?_)
      refine g_aload_n hF d_X2_binary_142 rfl 2 rfl ?_
      refine g_getN hF 2 (obC_op hq2) (by decide) nm_404 (fval_op hq2) d_X2_binary_143 ?_
      refine g_any (fun v66 => ?_)
      refine g_mmax hF (Nat.le_of_ble_eq_true rfl) m_1130 m_1131 m_23 m_1132 (Nat.le_of_ble_eq_true rfl) d_X2_binary_146 ?_
      refine g_nm (fun v68 ev68 => ?_)
      have mv68 := s_max ev68
      refine g_iadd hF d_X2_binary_149 ?_
      refine g_iload_n hF d_X2_binary_150 rfl 5 rfl ?_
      refine g_callV (As := [.ref (r q3), .int (1 + v68), .int a1]) (rest := []) hF (c_X2_raise a g r σ64 (1 + v68) a1 q3 hq3 iσ64) (Nat.le_of_ble_eq_true rfl) mV_X2_raise m_1186 (recv_ob obC_7) rfl rfl (Nat.le_of_ble_eq_true rfl) d_X2_binary_151 (k_v (fun σ69 ⟨iσ69, ik69⟩ => ?_)) (fun _ _ _ h => h.elim)
      have kp : Keep [(4, 1), (6, 3), (6, 4), (7, 7)] [24] σ0 σ69 := keep_c kp ik69 (by decide) (by decide)
      exact g_vret hF rfl d_X2_binary_154 ⟨rfl, rfl, rfl, ⟨iσ69, kp⟩⟩
    · -- not taken at 41
      refine g_iload_n hF d_X2_binary_44 rfl 3 rfl ?_
      refine g_bipush hF (v := 57) d_X2_binary_45 (by decide) ?_
      refine g_icmp_ne (yv := 57) hF 85 d_X2_binary_47 (by decide) rfl (by decide) (fun c70_47 => ?_) (fun c70_47 => ?_)
      · -- taken at 47
        refine g_aload_n hF d_X2_binary_85 rfl 4 rfl ?_
        refine g_iload_n hF d_X2_binary_86 rfl 3 rfl ?_
        refine g_aload hF d_X2_binary_87 1 rfl ?_
        refine g_getN hF 1 (obC_op hq3) (by decide) nm_402 (fval_op hq3) d_X2_binary_89 ?_
        refine g_any (fun v71 => ?_)
        refine g_if_le hF 99 d_X2_binary_92 (by decide) rfl (fun c72_92 => ?_) (fun c72_92 => ?_)
        · -- taken at 92
          refine g_iconst hF (v := 0) d_X2_binary_99 (by decide) ?_
          refine g_aload_n hF d_X2_binary_100 rfl 4 rfl ?_
          refine g_iload_n hF d_X2_binary_101 rfl 5 rfl ?_
          refine g_callV (As := [.int a1]) (rest := [.int 0, .int r1, .ref (r 7)]) hF (c_X2_lineOf a g r σ56 a1 iσ56) (Nat.le_of_ble_eq_true rfl) mV_X2_lineOf m_1182 (recv_ob obC_7) rfl rfl (Nat.le_of_ble_eq_true rfl) d_X2_binary_102 (k_ro (fun r73 => ?_)) (fun _ _ _ h => h.elim)
          refine g_callV (As := [.int r1, .int 0, .int r73]) (rest := []) hF (c_X2_operate a g r σ56 r1 (0 : Int32) r73 iσ56 (Or.inl rfl)) (Nat.le_of_ble_eq_true rfl) mV_X2_operate m_1215 (recv_ob obC_7) rfl rfl (Nat.le_of_ble_eq_true rfl) d_X2_binary_105 (k_v (fun σ74 ⟨iσ74, ik74⟩ => ?_)) (fun _ _ _ h => h.elim)
          have kp : Keep [(4, 1), (6, 3), (6, 4), (7, 7)] [24] σ0 σ74 := keep_c kp ik74 (by decide) (by decide)
          refine g_iload_n hF d_X2_binary_108 rfl 3 rfl ?_
          refine g_aload hF d_X2_binary_109 1 rfl ?_
          refine g_aload_n hF d_X2_binary_111 rfl 2 rfl ?_
          refine g_callS (As := [.int r1, .ref (r q3), .ref (r q2)]) (rest := []) hF (c_X2_combine a g r σ74 r1 q3 hq3 q2 hq2 iσ74) (Nat.le_of_ble_eq_true rfl) mS_X2_combine m_1219 rfl rfl (Nat.le_of_ble_eq_true rfl) d_X2_binary_112 (k_v (fun σ75 ⟨iσ75, ik75⟩ => ?_)) (fun _ _ _ h => h.elim)
          have kp : Keep [(4, 1), (6, 3), (6, 4), (7, 7)] [24] σ0 σ75 := keep_c kp ik75 (by decide) (by decide)
          refine g_aload hF d_X2_binary_115 1 rfl ?_
          refine g_iload hF d_X2_binary_117 0 rfl ?_
          refine g_aload hF d_X2_binary_119 1 rfl ?_
          refine g_getN hF 6 (obC_op hq3) (by decide) nm_412 (fval_op hq3) d_X2_binary_121 ?_
          refine g_any (fun v76 => ?_)
          refine g_callVN (As := [.int r4, .int v76]) (rest := []) hF (c_X6_become a g r σ75 r4 v76 q3 hq3 iσ75) (Nat.le_of_ble_eq_true rfl) mV_X6_become nm_1100 (recv_ob (obC_op hq3)) rfl rfl (Nat.le_of_ble_eq_true rfl) d_X2_binary_124 (k_v (fun σ77 ⟨iσ77, ik77⟩ => ?_))
          have kp : Keep [(4, 1), (6, 3), (6, 4), (7, 7)] [24] σ0 σ77 := keep_c kp ik77 (by decide) (by decide)
          refine g_aload_n hF d_X2_binary_127 rfl 4 rfl ?_
          refine g_aload hF d_X2_binary_128 1 rfl ?_
          refine g_callV (As := [.ref (r q3)]) (rest := []) hF (c_X2_fold a g r σ77 q3 hq3 iσ77) (Nat.le_of_ble_eq_true rfl) mV_X2_fold m_1233 (recv_ob obC_7) rfl rfl (Nat.le_of_ble_eq_true rfl) d_X2_binary_130 (k_v (fun σ78 ⟨iσ78, ik78⟩ => ?_)) (fun _ _ _ h => h.elim)
          have kp : Keep [(4, 1), (6, 3), (6, 4), (7, 7)] [24] σ0 σ78 := keep_c kp ik78 (by decide) (by decide)
          refine g_aload_n hF d_X2_binary_133 rfl 4 rfl ?_
          refine g_aload hF d_X2_binary_134 1 rfl ?_
          refine g_iconst hF (v := 1) d_X2_binary_136 (by decide) ?_
          refine g_aload hF d_X2_binary_137 1 rfl ?_
          refine g_getN hF 2 (obC_op hq3) (by decide) nm_404 (fval_op hq3) d_X2_binary_139 ?_
          refine g_any (fun v79 => ?_)
          refine g_aload_n hF d_X2_binary_142 rfl 2 rfl ?_
          refine g_getN hF 2 (obC_op hq2) (by decide) nm_404 (fval_op hq2) d_X2_binary_143 ?_
          refine g_any (fun v80 => ?_)
          refine g_mmax hF (Nat.le_of_ble_eq_true rfl) m_1130 m_1131 m_23 m_1132 (Nat.le_of_ble_eq_true rfl) d_X2_binary_146 ?_
          refine g_nm (fun v82 ev82 => ?_)
          have mv82 := s_max ev82
          refine g_iadd hF d_X2_binary_149 ?_
          refine g_iload_n hF d_X2_binary_150 rfl 5 rfl ?_
          refine g_callV (As := [.ref (r q3), .int (1 + v82), .int a1]) (rest := []) hF (c_X2_raise a g r σ78 (1 + v82) a1 q3 hq3 iσ78) (Nat.le_of_ble_eq_true rfl) mV_X2_raise m_1186 (recv_ob obC_7) rfl rfl (Nat.le_of_ble_eq_true rfl) d_X2_binary_151 (k_v (fun σ83 ⟨iσ83, ik83⟩ => ?_)) (fun _ _ _ h => h.elim)
          have kp : Keep [(4, 1), (6, 3), (6, 4), (7, 7)] [24] σ0 σ83 := keep_c kp ik83 (by decide) (by decide)
          exact g_vret hF rfl d_X2_binary_154 ⟨rfl, rfl, rfl, ⟨iσ83, kp⟩⟩
        · -- not taken at 92
          refine g_iconst hF (v := 1) d_X2_binary_95 (by decide) ?_
          refine g_goto hF 100 d_X2_binary_96 (by decide) ?_
          refine g_aload_n hF d_X2_binary_100 rfl 4 rfl ?_
          refine g_iload_n hF d_X2_binary_101 rfl 5 rfl ?_
          refine g_callV (As := [.int a1]) (rest := [.int 1, .int r1, .ref (r 7)]) hF (c_X2_lineOf a g r σ56 a1 iσ56) (Nat.le_of_ble_eq_true rfl) mV_X2_lineOf m_1182 (recv_ob obC_7) rfl rfl (Nat.le_of_ble_eq_true rfl) d_X2_binary_102 (k_ro (fun r84 => ?_)) (fun _ _ _ h => h.elim)
          refine g_callV (As := [.int r1, .int 1, .int r84]) (rest := []) hF (c_X2_operate a g r σ56 r1 (1 : Int32) r84 iσ56 (Or.inr rfl)) (Nat.le_of_ble_eq_true rfl) mV_X2_operate m_1215 (recv_ob obC_7) rfl rfl (Nat.le_of_ble_eq_true rfl) d_X2_binary_105 (k_v (fun σ85 ⟨iσ85, ik85⟩ => ?_)) (fun _ _ _ h => h.elim)
          have kp : Keep [(4, 1), (6, 3), (6, 4), (7, 7)] [24] σ0 σ85 := keep_c kp ik85 (by decide) (by decide)
          refine g_iload_n hF d_X2_binary_108 rfl 3 rfl ?_
          refine g_aload hF d_X2_binary_109 1 rfl ?_
          refine g_aload_n hF d_X2_binary_111 rfl 2 rfl ?_
          refine g_callS (As := [.int r1, .ref (r q3), .ref (r q2)]) (rest := []) hF (c_X2_combine a g r σ85 r1 q3 hq3 q2 hq2 iσ85) (Nat.le_of_ble_eq_true rfl) mS_X2_combine m_1219 rfl rfl (Nat.le_of_ble_eq_true rfl) d_X2_binary_112 (k_v (fun σ86 ⟨iσ86, ik86⟩ => ?_)) (fun _ _ _ h => h.elim)
          have kp : Keep [(4, 1), (6, 3), (6, 4), (7, 7)] [24] σ0 σ86 := keep_c kp ik86 (by decide) (by decide)
          refine g_aload hF d_X2_binary_115 1 rfl ?_
          refine g_iload hF d_X2_binary_117 0 rfl ?_
          refine g_aload hF d_X2_binary_119 1 rfl ?_
          refine g_getN hF 6 (obC_op hq3) (by decide) nm_412 (fval_op hq3) d_X2_binary_121 ?_
          refine g_any (fun v87 => ?_)
          refine g_callVN (As := [.int r4, .int v87]) (rest := []) hF (c_X6_become a g r σ86 r4 v87 q3 hq3 iσ86) (Nat.le_of_ble_eq_true rfl) mV_X6_become nm_1100 (recv_ob (obC_op hq3)) rfl rfl (Nat.le_of_ble_eq_true rfl) d_X2_binary_124 (k_v (fun σ88 ⟨iσ88, ik88⟩ => ?_))
          have kp : Keep [(4, 1), (6, 3), (6, 4), (7, 7)] [24] σ0 σ88 := keep_c kp ik88 (by decide) (by decide)
          refine g_aload_n hF d_X2_binary_127 rfl 4 rfl ?_
          refine g_aload hF d_X2_binary_128 1 rfl ?_
          refine g_callV (As := [.ref (r q3)]) (rest := []) hF (c_X2_fold a g r σ88 q3 hq3 iσ88) (Nat.le_of_ble_eq_true rfl) mV_X2_fold m_1233 (recv_ob obC_7) rfl rfl (Nat.le_of_ble_eq_true rfl) d_X2_binary_130 (k_v (fun σ89 ⟨iσ89, ik89⟩ => ?_)) (fun _ _ _ h => h.elim)
          have kp : Keep [(4, 1), (6, 3), (6, 4), (7, 7)] [24] σ0 σ89 := keep_c kp ik89 (by decide) (by decide)
          refine g_aload_n hF d_X2_binary_133 rfl 4 rfl ?_
          refine g_aload hF d_X2_binary_134 1 rfl ?_
          refine g_iconst hF (v := 1) d_X2_binary_136 (by decide) ?_
          refine g_aload hF d_X2_binary_137 1 rfl ?_
          refine g_getN hF 2 (obC_op hq3) (by decide) nm_404 (fval_op hq3) d_X2_binary_139 ?_
          refine g_any (fun v90 => ?_)
          refine g_aload_n hF d_X2_binary_142 rfl 2 rfl ?_
          refine g_getN hF 2 (obC_op hq2) (by decide) nm_404 (fval_op hq2) d_X2_binary_143 ?_
          refine g_any (fun v91 => ?_)
          refine g_mmax hF (Nat.le_of_ble_eq_true rfl) m_1130 m_1131 m_23 m_1132 (Nat.le_of_ble_eq_true rfl) d_X2_binary_146 ?_
          refine g_nm (fun v93 ev93 => ?_)
          have mv93 := s_max ev93
          refine g_iadd hF d_X2_binary_149 ?_
          refine g_iload_n hF d_X2_binary_150 rfl 5 rfl ?_
          refine g_callV (As := [.ref (r q3), .int (1 + v93), .int a1]) (rest := []) hF (c_X2_raise a g r σ89 (1 + v93) a1 q3 hq3 iσ89) (Nat.le_of_ble_eq_true rfl) mV_X2_raise m_1186 (recv_ob obC_7) rfl rfl (Nat.le_of_ble_eq_true rfl) d_X2_binary_151 (k_v (fun σ94 ⟨iσ94, ik94⟩ => ?_)) (fun _ _ _ h => h.elim)
          have kp : Keep [(4, 1), (6, 3), (6, 4), (7, 7)] [24] σ0 σ94 := keep_c kp ik94 (by decide) (by decide)
          exact g_vret hF rfl d_X2_binary_154 ⟨rfl, rfl, rfl, ⟨iσ94, kp⟩⟩
      · -- not taken at 47
        refine g_aload_n hF d_X2_binary_50 rfl 4 rfl ?_
        refine g_get (v := .ref (r 4)) hF 4 obC_7 (by decide) m_461 rfl d_X2_binary_51 ?_
        refine g_bipush hF (v := 25) d_X2_binary_54 (by decide) ?_
        refine g_iconst hF (v := 0) d_X2_binary_56 (by decide) ?_
        refine g_iconst hF (v := 0) d_X2_binary_57 (by decide) ?_
        refine g_iconst hF (v := 0) d_X2_binary_58 (by decide) ?_
        refine g_callVN (As := [.int 25, .int 0, .int 0, .int 0]) (rest := []) hF (c_X0_emit a g r σ56 (25 : Int32) (0 : Int32) (0 : Int32) (0 : Int32) iσ56) (Nat.le_of_ble_eq_true rfl) mV_X0_emit nm_1071 (recv_ob obC_4) rfl rfl (Nat.le_of_ble_eq_true rfl) d_X2_binary_59 (k_i (fun r95 σ95 ⟨iσ95, ik95⟩ => ?_))
        have kp : Keep [(4, 1), (6, 3), (6, 4), (7, 7)] [24] σ0 σ95 := keep_c kp ik95 (by decide) (by decide)
        refine g_pop hF d_X2_binary_62 rfl ?_
        refine g_aload_n hF d_X2_binary_63 rfl 4 rfl ?_
        refine g_get (v := .ref (r 4)) hF 4 obC_7 (by decide) m_461 rfl d_X2_binary_64 ?_
        refine g_aload hF d_X2_binary_67 1 rfl ?_
        refine g_getN hF 10 (obC_op hq3) (by decide) nm_424 (fval_op hq3) d_X2_binary_69 ?_
        refine g_any (fun v96 => ?_)
        refine g_aload_n hF d_X2_binary_72 rfl 4 rfl ?_
        refine g_get (v := .ref (r 4)) hF 4 obC_7 (by decide) m_461 rfl d_X2_binary_73 ?_
        refine g_getN (v := .int (σ95 4 1)) hF 1 obC_4 (by decide) nm_155 rfl d_X2_binary_76 ?_
        refine g_callVN (As := [.int v96, .int (σ95 4 1)]) (rest := []) hF (c_X0_aim a g r σ95 v96 (σ95 4 1) iσ95) (Nat.le_of_ble_eq_true rfl) mV_X0_aim nm_1209 (recv_ob obC_4) rfl rfl (Nat.le_of_ble_eq_true rfl) d_X2_binary_79 (k_v (fun σ97 ⟨iσ97, ik97⟩ => ?_))
        have kp : Keep [(4, 1), (6, 3), (6, 4), (7, 7)] [24] σ0 σ97 := keep_c kp ik97 (by decide) (by decide)
        refine g_goto hF 108 d_X2_binary_82 (by decide) ?_
        refine g_iload_n hF d_X2_binary_108 rfl 3 rfl ?_
        refine g_aload hF d_X2_binary_109 1 rfl ?_
        refine g_aload_n hF d_X2_binary_111 rfl 2 rfl ?_
        refine g_callS (As := [.int r1, .ref (r q3), .ref (r q2)]) (rest := []) hF (c_X2_combine a g r σ97 r1 q3 hq3 q2 hq2 iσ97) (Nat.le_of_ble_eq_true rfl) mS_X2_combine m_1219 rfl rfl (Nat.le_of_ble_eq_true rfl) d_X2_binary_112 (k_v (fun σ98 ⟨iσ98, ik98⟩ => ?_)) (fun _ _ _ h => h.elim)
        have kp : Keep [(4, 1), (6, 3), (6, 4), (7, 7)] [24] σ0 σ98 := keep_c kp ik98 (by decide) (by decide)
        refine g_aload hF d_X2_binary_115 1 rfl ?_
        refine g_iload hF d_X2_binary_117 0 rfl ?_
        refine g_aload hF d_X2_binary_119 1 rfl ?_
        refine g_getN hF 6 (obC_op hq3) (by decide) nm_412 (fval_op hq3) d_X2_binary_121 ?_
        refine g_any (fun v99 => ?_)
        refine g_callVN (As := [.int r4, .int v99]) (rest := []) hF (c_X6_become a g r σ98 r4 v99 q3 hq3 iσ98) (Nat.le_of_ble_eq_true rfl) mV_X6_become nm_1100 (recv_ob (obC_op hq3)) rfl rfl (Nat.le_of_ble_eq_true rfl) d_X2_binary_124 (k_v (fun σ100 ⟨iσ100, ik100⟩ => ?_))
        have kp : Keep [(4, 1), (6, 3), (6, 4), (7, 7)] [24] σ0 σ100 := keep_c kp ik100 (by decide) (by decide)
        refine g_aload_n hF d_X2_binary_127 rfl 4 rfl ?_
        refine g_aload hF d_X2_binary_128 1 rfl ?_
        refine g_callV (As := [.ref (r q3)]) (rest := []) hF (c_X2_fold a g r σ100 q3 hq3 iσ100) (Nat.le_of_ble_eq_true rfl) mV_X2_fold m_1233 (recv_ob obC_7) rfl rfl (Nat.le_of_ble_eq_true rfl) d_X2_binary_130 (k_v (fun σ101 ⟨iσ101, ik101⟩ => ?_)) (fun _ _ _ h => h.elim)
        have kp : Keep [(4, 1), (6, 3), (6, 4), (7, 7)] [24] σ0 σ101 := keep_c kp ik101 (by decide) (by decide)
        refine g_aload_n hF d_X2_binary_133 rfl 4 rfl ?_
        refine g_aload hF d_X2_binary_134 1 rfl ?_
        refine g_iconst hF (v := 1) d_X2_binary_136 (by decide) ?_
        refine g_aload hF d_X2_binary_137 1 rfl ?_
        refine g_getN hF 2 (obC_op hq3) (by decide) nm_404 (fval_op hq3) d_X2_binary_139 ?_
        refine g_any (fun v102 => ?_)
        refine g_aload_n hF d_X2_binary_142 rfl 2 rfl ?_
        refine g_getN hF 2 (obC_op hq2) (by decide) nm_404 (fval_op hq2) d_X2_binary_143 ?_
        refine g_any (fun v103 => ?_)
        refine g_mmax hF (Nat.le_of_ble_eq_true rfl) m_1130 m_1131 m_23 m_1132 (Nat.le_of_ble_eq_true rfl) d_X2_binary_146 ?_
        refine g_nm (fun v105 ev105 => ?_)
        have mv105 := s_max ev105
        refine g_iadd hF d_X2_binary_149 ?_
        refine g_iload_n hF d_X2_binary_150 rfl 5 rfl ?_
        refine g_callV (As := [.ref (r q3), .int (1 + v105), .int a1]) (rest := []) hF (c_X2_raise a g r σ101 (1 + v105) a1 q3 hq3 iσ101) (Nat.le_of_ble_eq_true rfl) mV_X2_raise m_1186 (recv_ob obC_7) rfl rfl (Nat.le_of_ble_eq_true rfl) d_X2_binary_151 (k_v (fun σ106 ⟨iσ106, ik106⟩ => ?_)) (fun _ _ _ h => h.elim)
        have kp : Keep [(4, 1), (6, 3), (6, 4), (7, 7)] [24] σ0 σ106 := keep_c kp ik106 (by decide) (by decide)
        exact g_vret hF rfl d_X2_binary_154 ⟨rfl, rfl, rfl, ⟨iσ106, kp⟩⟩
set_option maxHeartbeats 4000000 in
set_option maxRecDepth 100000 in
theorem c_X7_conditional (a : Nat → Nat) (g : Nat → Nat → Int32) (r : Nat → Nat) (σ0 : St) (a1 : Int32) (a2 : Int32) (i0 : Inv σ0) (l : Launch) (D : va_G) (cy : Nat → ClassId) : Ct l D cy SC r (EC a g) y_X7_conditional (Cond.code y_X7_conditional b_X7_conditional 4 none) 4 [.ref (r 9), .int a1, .int a2] σ0 Z0 [] (QV (fun σ9 => (Inv σ9 ∧ Keep [(4, 1), (6, 3), (6, 4), (7, 7), (9, 5)] [24, 49, 50, 51, 52] σ0 σ9))) QF := by
  refine Ct_of (EC_ok a g) (by decide) (Nat.le_of_ble_eq_true rfl) (by decide) (fun X hnn hF => ?_)
  show G SC r X σ0 Z0 [] [(0, .ref (r 9)), (1, .int a1), (2, .int a2)] [] 0
  have kp : Keep [(4, 1), (6, 3), (6, 4), (7, 7), (9, 5)] [24, 49, 50, 51, 52] σ0 σ0 := keep_rf
  refine g_iload_n hF d_X7_conditional_0 rfl 1 rfl ?_
  refine g_bipush hF (v := 23) d_X7_conditional_1 (by decide) ?_
  refine g_icmp_ne (yv := 23) hF 25 d_X7_conditional_3 (by decide) rfl (by decide) (fun c1_3 => ?_) (fun c1_3 => ?_)
  · -- taken at 3
    refine g_iload_n hF d_X7_conditional_25 rfl 1 rfl ?_
    refine g_bipush hF (v := 24) d_X7_conditional_26 (by decide) ?_
    refine g_icmp_ne (yv := 24) hF 88 d_X7_conditional_28 (by decide) rfl (by decide) (fun c2_28 => ?_) (fun c2_28 => ?_)
    · -- taken at 28
      refine g_aload_n hF d_X7_conditional_88 rfl 0 rfl ?_
      refine g_callV (As := []) (rest := []) hF (c_X7_finish a g r σ0 i0) (Nat.le_of_ble_eq_true rfl) mV_X7_finish m_1319 (recv_ob obC_9) rfl rfl (Nat.le_of_ble_eq_true rfl) d_X7_conditional_89 (k_v (fun σ3 ⟨iσ3, ik3⟩ => ?_)) (fun _ _ _ h => h.elim)
      have kp : Keep [(4, 1), (6, 3), (6, 4), (7, 7), (9, 5)] [24, 49, 50, 51, 52] σ0 σ3 := keep_c kp ik3 (by decide) (by decide)
      exact g_vret hF rfl d_X7_conditional_92 ⟨rfl, rfl, rfl, ⟨iσ3, kp⟩⟩
    · -- not taken at 28
      refine g_aload_n hF d_X7_conditional_31 rfl 0 rfl ?_
      refine g_get (v := .ref (r 4)) hF 2 obC_9 (by decide) m_555 rfl d_X7_conditional_32 ?_
      refine g_bipush hF (v := 26) d_X7_conditional_35 (by decide) ?_
      refine g_iconst hF (v := (-1)) d_X7_conditional_37 (by decide) ?_
      refine g_iconst hF (v := 0) d_X7_conditional_38 (by decide) ?_
      refine g_iconst hF (v := 0) d_X7_conditional_39 (by decide) ?_
      refine g_callVN (As := [.int 26, .int (-1), .int 0, .int 0]) (rest := []) hF (c_X0_emit a g r σ0 (26 : Int32) ((-1) : Int32) (0 : Int32) (0 : Int32) i0) (Nat.le_of_ble_eq_true rfl) mV_X0_emit nm_1298 (recv_ob obC_4) rfl rfl (Nat.le_of_ble_eq_true rfl) d_X7_conditional_40 (k_i (fun r4 σ4 ⟨iσ4, ik4⟩ => ?_))
      have kp : Keep [(4, 1), (6, 3), (6, 4), (7, 7), (9, 5)] [24, 49, 50, 51, 52] σ0 σ4 := keep_c kp ik4 (by decide) (by decide)
      refine g_istore_n hF [(3, .int r4), (0, .ref (r 9)), (1, .int a1), (2, .int a2)] d_X7_conditional_43 rfl hnn (by decide) rfl ?_
      refine g_aload_n hF d_X7_conditional_44 rfl 1 rfl ?_
      refine g_get (v := .ref (r 4)) hF 2 obC_9 (by decide) m_555 rfl d_X7_conditional_45 ?_
      refine g_aload_n hF d_X7_conditional_48 rfl 1 rfl ?_
      refine g_get (v := .ref (r 51)) hF 8 obC_9 (by decide) m_561 rfl d_X7_conditional_49 ?_
      refine g_aload_n hF d_X7_conditional_52 rfl 1 rfl ?_
      refine g_get (v := .int (σ4 9 5)) hF 5 obC_9 (by decide) m_558 rfl d_X7_conditional_53 ?_
      refine g_top (v := (σ0 9 5)) (ik4 9 5 rfl rfl rfl) ?_
      refine g_iconst hF (v := 1) d_X7_conditional_56 (by decide) ?_
      refine g_isub hF d_X7_conditional_57 ?_
      refine g_callSN (As := [.ref (r 51), .int ((σ0 9 5) - 1)]) (rest := [.ref (r 4)]) hF (c_at a g r σ4 arC_51 (by decide) ((σ0 9 5) - 1)) (Nat.le_of_ble_eq_true rfl) mS_X12_at nm_1053 rfl rfl (Nat.le_of_ble_eq_true rfl) d_X7_conditional_58 (k_rop (fun r5 hr5 => ?_))
      refine g_aload_n hF d_X7_conditional_61 rfl 1 rfl ?_
      refine g_get (v := .ref (r 4)) hF 2 obC_9 (by decide) m_555 rfl d_X7_conditional_62 ?_
      refine g_getN (v := .int (σ4 4 1)) hF 1 obC_4 (by decide) nm_154 rfl d_X7_conditional_65 ?_
      refine g_callVN (As := [.int r5, .int (σ4 4 1)]) (rest := []) hF (c_X0_aim a g r σ4 r5 (σ4 4 1) iσ4) (Nat.le_of_ble_eq_true rfl) mV_X0_aim nm_1318 (recv_ob obC_4) rfl rfl (Nat.le_of_ble_eq_true rfl) d_X7_conditional_68 (k_v (fun σ6 ⟨iσ6, ik6⟩ => ?_))
      have kp : Keep [(4, 1), (6, 3), (6, 4), (7, 7), (9, 5)] [24, 49, 50, 51, 52] σ0 σ6 := keep_c kp ik6 (by decide) (by decide)
      refine g_aload_n hF d_X7_conditional_71 rfl 1 rfl ?_
      refine g_get (v := .ref (r 51)) hF 8 obC_9 (by decide) m_561 rfl d_X7_conditional_72 ?_
      refine g_aload_n hF d_X7_conditional_75 rfl 1 rfl ?_
      refine g_get (v := .int (σ6 9 5)) hF 5 obC_9 (by decide) m_558 rfl d_X7_conditional_76 ?_
      refine g_top (v := (σ0 9 5)) ((ik6 9 5 rfl rfl rfl).trans (ik4 9 5 rfl rfl rfl)) ?_
      refine g_iconst hF (v := 1) d_X7_conditional_79 (by decide) ?_
      refine g_isub hF d_X7_conditional_80 ?_
      refine g_iload_n hF d_X7_conditional_81 rfl 0 rfl ?_
      refine g_callSN (As := [.ref (r 51), .int ((σ0 9 5) - 1), .int r4]) (rest := []) hF (c_set a g r σ6 arC_51 (by decide) ((σ0 9 5) - 1) r4) (Nat.le_of_ble_eq_true rfl) mS_X12_set nm_1312 rfl rfl (Nat.le_of_ble_eq_true rfl) d_X7_conditional_82 (k_v (fun σ7 ⟨g7, eσ7, hg7⟩ => ?_))
      subst eσ7
      have kp : Keep [(4, 1), (6, 3), (6, 4), (7, 7), (9, 5)] [24, 49, 50, 51, 52] σ0 (upF σ6 51 g7) := keep_F kp (by decide)
      refine g_goto hF 92 d_X7_conditional_85 (by decide) ?_
      have j8 : Inv (upF σ6 51 g7) := ⟨iσ6.1, iσ6.2.1, iσ6.2.2.1, iσ6.2.2.2.1, iσ6.2.2.2.2.1, iσ6.2.2.2.2.2.1, iσ6.2.2.2.2.2.2.1, iσ6.2.2.2.2.2.2.2.1, iσ6.2.2.2.2.2.2.2.2.1, iσ6.2.2.2.2.2.2.2.2.2.1, iσ6.2.2.2.2.2.2.2.2.2.2.1, iσ6.2.2.2.2.2.2.2.2.2.2.2.1, iσ6.2.2.2.2.2.2.2.2.2.2.2.2.1, iσ6.2.2.2.2.2.2.2.2.2.2.2.2.2.1, iσ6.2.2.2.2.2.2.2.2.2.2.2.2.2.2.1, iσ6.2.2.2.2.2.2.2.2.2.2.2.2.2.2.2.1, iσ6.2.2.2.2.2.2.2.2.2.2.2.2.2.2.2.2.1, iσ6.2.2.2.2.2.2.2.2.2.2.2.2.2.2.2.2.2.1, iσ6.2.2.2.2.2.2.2.2.2.2.2.2.2.2.2.2.2.2.1, iσ6.2.2.2.2.2.2.2.2.2.2.2.2.2.2.2.2.2.2.2⟩
      exact g_vret hF rfl d_X7_conditional_92 ⟨rfl, rfl, rfl, ⟨j8, kp⟩⟩
  · -- not taken at 3
    refine g_aload_n hF d_X7_conditional_6 rfl 0 rfl ?_
    refine g_iload_n hF d_X7_conditional_7 rfl 2 rfl ?_
    refine g_callV (As := [.int a2]) (rest := []) hF (c_X7_condition a g r σ0 a2 i0) (Nat.le_of_ble_eq_true rfl) mV_X7_condition m_1303 (recv_ob obC_9) rfl rfl (Nat.le_of_ble_eq_true rfl) d_X7_conditional_8 (k_a (fun q9 σ9 ⟨hq9, iσ9, ik9⟩ => ?_)) (fun _ _ _ h => h.elim)
    have kp : Keep [(4, 1), (6, 3), (6, 4), (7, 7), (9, 5)] [24, 49, 50, 51, 52] σ0 σ9 := keep_c kp ik9 (by decide) (by decide)
    refine g_astore_n hF [(3, .ref (r q9)), (0, .ref (r 9)), (1, .int a1), (2, .int a2)] d_X7_conditional_11 rfl hnn (by decide) rfl ?_
    refine g_aload_n hF d_X7_conditional_12 rfl 1 rfl ?_
    refine g_iconst hF (v := 0) d_X7_conditional_13 (by decide) ?_
    refine g_callV (As := [.int 0]) (rest := []) hF (c_X7_begin a g r σ9 (0 : Int32) iσ9 (Or.inl rfl)) (Nat.le_of_ble_eq_true rfl) mV_X7_begin m_1308 (recv_ob obC_9) rfl rfl (Nat.le_of_ble_eq_true rfl) d_X7_conditional_14 (k_v (fun σ10 ⟨iσ10, ik10⟩ => ?_)) (fun _ _ _ h => h.elim)
    have kp : Keep [(4, 1), (6, 3), (6, 4), (7, 7), (9, 5)] [24, 49, 50, 51, 52] σ0 σ10 := keep_c kp ik10 (by decide) (by decide)
    refine g_aload_n hF d_X7_conditional_17 rfl 1 rfl ?_
    refine g_aload_n hF d_X7_conditional_18 rfl 0 rfl ?_
    refine g_callV (As := [.ref (r q9)]) (rest := []) hF (c_X7_exitUnless a g r σ10 q9 hq9 iσ10) (Nat.le_of_ble_eq_true rfl) mV_X7_exitUnless m_1313 (recv_ob obC_9) rfl rfl (Nat.le_of_ble_eq_true rfl) d_X7_conditional_19 (k_v (fun σ11 ⟨iσ11, ik11⟩ => ?_)) (fun _ _ _ h => h.elim)
    have kp : Keep [(4, 1), (6, 3), (6, 4), (7, 7), (9, 5)] [24, 49, 50, 51, 52] σ0 σ11 := keep_c kp ik11 (by decide) (by decide)
    refine g_goto hF 92 d_X7_conditional_22 (by decide) ?_
    exact g_vret hF rfl d_X7_conditional_92 ⟨rfl, rfl, rfl, ⟨iσ11, kp⟩⟩
set_option maxHeartbeats 4000000 in
set_option maxRecDepth 100000 in
theorem c_X5_lead (a : Nat → Nat) (g : Nat → Nat → Int32) (r : Nat → Nat) (σ0 : St) (a1 : Int32) (a2 : Int32) (i0 : Inv σ0) (l : Launch) (D : va_G) (cy : Nat → ClassId) : Ct l D cy SC r (EC a g) y_X5_lead (Cond.code y_X5_lead b_X5_lead 4 none) 4 [.ref (r 12), .int a1, .int a2] σ0 Z0 [] (QV (fun σ9 => (Inv σ9 ∧ Keep [(11, 1), (11, 2), (12, 7), (12, 8), (12, 9), (12, 10), (12, 11), (12, 13), (12, 14), (12, 15), (12, 16), (12, 17)] [61, 62, 63, 64] σ0 σ9))) QF := by
  refine Ct_of (EC_ok a g) (by decide) (Nat.le_of_ble_eq_true rfl) (by decide) (fun X hnn hF => ?_)
  show G SC r X σ0 Z0 [] [(0, .ref (r 12)), (1, .int a1), (2, .int a2)] [] 0
  have kp : Keep [(11, 1), (11, 2), (12, 7), (12, 8), (12, 9), (12, 10), (12, 11), (12, 13), (12, 14), (12, 15), (12, 16), (12, 17)] [61, 62, 63, 64] σ0 σ0 := keep_rf
  refine g_aload_n hF d_X5_lead_0 rfl 0 rfl ?_
  refine g_get (v := .ref (r 24)) hF 3 obC_12 (by decide) m_674 rfl d_X5_lead_1 ?_
  refine g_iload_n hF d_X5_lead_4 rfl 2 rfl ?_
  refine g_iconst hF (v := 1) d_X5_lead_5 (by decide) ?_
  refine g_iadd hF d_X5_lead_6 ?_
  refine g_callSN (As := [.ref (r 24), .int (a2 + 1)]) (rest := []) hF (c_at a g r σ0 arC_24 (by decide) (a2 + 1)) (Nat.le_of_ble_eq_true rfl) mS_X12_at nm_1660 rfl rfl (Nat.le_of_ble_eq_true rfl) d_X5_lead_7 (k_rop (fun r1 hr1 => ?_))
  refine g_istore_n hF [(3, .int r1), (0, .ref (r 12)), (1, .int a1), (2, .int a2)] d_X5_lead_10 rfl hnn (by decide) rfl ?_
  refine g_iload_n hF d_X5_lead_11 rfl 2 rfl ?_
  refine (Decidable.em (a1.toInt = 26)).elim (fun q2_12_0 => ?_) (fun q2_12_0 => ?_)
  · refine g_tableIn (off := 44) hF 56 d_X5_lead_12 q2_12_0 (by decide) (by decide) (by decide +kernel) (by decide) ?_
    refine g_aload_n hF d_X5_lead_56 rfl 1 rfl ?_
    refine g_iload_n hF d_X5_lead_57 rfl 0 rfl ?_
    refine g_put (v := r1) hF 8 obC_12 (by decide) m_680 rfl rfl rfl d_X5_lead_58 ?_
    have kp : Keep [(11, 1), (11, 2), (12, 7), (12, 8), (12, 9), (12, 10), (12, 11), (12, 13), (12, 14), (12, 15), (12, 16), (12, 17)] [61, 62, 63, 64] σ0 (upC σ0 12 8 r1) := keep_f kp (by decide)
    refine g_goto hF 168 d_X5_lead_61 (by decide) ?_
    have j3 : Inv (upC σ0 12 8 r1) := ⟨i0.1, i0.2.1, i0.2.2.1, i0.2.2.2.1, i0.2.2.2.2.1, i0.2.2.2.2.2.1, i0.2.2.2.2.2.2.1, i0.2.2.2.2.2.2.2.1, i0.2.2.2.2.2.2.2.2.1, i0.2.2.2.2.2.2.2.2.2.1, i0.2.2.2.2.2.2.2.2.2.2.1, i0.2.2.2.2.2.2.2.2.2.2.2.1, i0.2.2.2.2.2.2.2.2.2.2.2.2.1, i0.2.2.2.2.2.2.2.2.2.2.2.2.2.1, i0.2.2.2.2.2.2.2.2.2.2.2.2.2.2.1, i0.2.2.2.2.2.2.2.2.2.2.2.2.2.2.2.1, i0.2.2.2.2.2.2.2.2.2.2.2.2.2.2.2.2.1, i0.2.2.2.2.2.2.2.2.2.2.2.2.2.2.2.2.2.1, i0.2.2.2.2.2.2.2.2.2.2.2.2.2.2.2.2.2.2.1, i0.2.2.2.2.2.2.2.2.2.2.2.2.2.2.2.2.2.2.2⟩
    exact g_vret hF rfl d_X5_lead_168 ⟨rfl, rfl, rfl, ⟨j3, kp⟩⟩
  refine (Decidable.em (a1.toInt = 27)).elim (fun q4_12_1 => ?_) (fun q4_12_1 => ?_)
  · refine g_tableIn (off := 52) hF 64 d_X5_lead_12 q4_12_1 (by decide) (by decide) (by decide +kernel) (by decide) ?_
    refine g_aload_n hF d_X5_lead_64 rfl 1 rfl ?_
    refine g_aload_n hF d_X5_lead_65 rfl 1 rfl ?_
    refine g_callV (As := []) (rest := [.ref (r 12)]) hF (c_X5_pop a g r σ0 i0) (Nat.le_of_ble_eq_true rfl) mV_X5_pop m_1681 (recv_ob obC_12) rfl rfl (Nat.le_of_ble_eq_true rfl) d_X5_lead_66 (k_i (fun r5 σ5 ⟨iσ5, ik5⟩ => ?_)) (fun _ _ _ h => h.elim)
    have kp : Keep [(11, 1), (11, 2), (12, 7), (12, 8), (12, 9), (12, 10), (12, 11), (12, 13), (12, 14), (12, 15), (12, 16), (12, 17)] [61, 62, 63, 64] σ0 σ5 := keep_c kp ik5 (by decide) (by decide)
    refine g_if_ne hF 76 d_X5_lead_69 (by decide) rfl (fun c6_69 => ?_) (fun c6_69 => ?_)
    · -- taken at 69
      refine g_aload_n hF d_X5_lead_76 rfl 1 rfl ?_
      refine g_get (v := .int (σ5 12 8)) hF 8 obC_12 (by decide) m_680 rfl d_X5_lead_77 ?_
      refine g_top (v := (σ0 12 8)) (ik5 12 8 rfl rfl rfl) ?_
      refine g_put (v := (σ0 12 8)) hF 8 obC_12 (by decide) m_680 rfl rfl rfl d_X5_lead_80 ?_
      have kp : Keep [(11, 1), (11, 2), (12, 7), (12, 8), (12, 9), (12, 10), (12, 11), (12, 13), (12, 14), (12, 15), (12, 16), (12, 17)] [61, 62, 63, 64] σ0 (upC σ5 12 8 (σ0 12 8)) := keep_f kp (by decide)
      refine g_goto hF 168 d_X5_lead_83 (by decide) ?_
      have j7 : Inv (upC σ5 12 8 (σ0 12 8)) := ⟨iσ5.1, iσ5.2.1, iσ5.2.2.1, iσ5.2.2.2.1, iσ5.2.2.2.2.1, iσ5.2.2.2.2.2.1, iσ5.2.2.2.2.2.2.1, iσ5.2.2.2.2.2.2.2.1, iσ5.2.2.2.2.2.2.2.2.1, iσ5.2.2.2.2.2.2.2.2.2.1, iσ5.2.2.2.2.2.2.2.2.2.2.1, iσ5.2.2.2.2.2.2.2.2.2.2.2.1, iσ5.2.2.2.2.2.2.2.2.2.2.2.2.1, iσ5.2.2.2.2.2.2.2.2.2.2.2.2.2.1, iσ5.2.2.2.2.2.2.2.2.2.2.2.2.2.2.1, iσ5.2.2.2.2.2.2.2.2.2.2.2.2.2.2.2.1, iσ5.2.2.2.2.2.2.2.2.2.2.2.2.2.2.2.2.1, iσ5.2.2.2.2.2.2.2.2.2.2.2.2.2.2.2.2.2.1, iσ5.2.2.2.2.2.2.2.2.2.2.2.2.2.2.2.2.2.2.1, iσ5.2.2.2.2.2.2.2.2.2.2.2.2.2.2.2.2.2.2.2⟩
      exact g_vret hF rfl d_X5_lead_168 ⟨rfl, rfl, rfl, ⟨j7, kp⟩⟩
    · -- not taken at 69
      refine g_iload_n hF d_X5_lead_72 rfl 0 rfl ?_
      refine g_goto hF 80 d_X5_lead_73 (by decide) ?_
      refine g_put (v := r1) hF 8 obC_12 (by decide) m_680 rfl rfl rfl d_X5_lead_80 ?_
      have kp : Keep [(11, 1), (11, 2), (12, 7), (12, 8), (12, 9), (12, 10), (12, 11), (12, 13), (12, 14), (12, 15), (12, 16), (12, 17)] [61, 62, 63, 64] σ0 (upC σ5 12 8 r1) := keep_f kp (by decide)
      refine g_goto hF 168 d_X5_lead_83 (by decide) ?_
      have j8 : Inv (upC σ5 12 8 r1) := ⟨iσ5.1, iσ5.2.1, iσ5.2.2.1, iσ5.2.2.2.1, iσ5.2.2.2.2.1, iσ5.2.2.2.2.2.1, iσ5.2.2.2.2.2.2.1, iσ5.2.2.2.2.2.2.2.1, iσ5.2.2.2.2.2.2.2.2.1, iσ5.2.2.2.2.2.2.2.2.2.1, iσ5.2.2.2.2.2.2.2.2.2.2.1, iσ5.2.2.2.2.2.2.2.2.2.2.2.1, iσ5.2.2.2.2.2.2.2.2.2.2.2.2.1, iσ5.2.2.2.2.2.2.2.2.2.2.2.2.2.1, iσ5.2.2.2.2.2.2.2.2.2.2.2.2.2.2.1, iσ5.2.2.2.2.2.2.2.2.2.2.2.2.2.2.2.1, iσ5.2.2.2.2.2.2.2.2.2.2.2.2.2.2.2.2.1, iσ5.2.2.2.2.2.2.2.2.2.2.2.2.2.2.2.2.2.1, iσ5.2.2.2.2.2.2.2.2.2.2.2.2.2.2.2.2.2.2.1, iσ5.2.2.2.2.2.2.2.2.2.2.2.2.2.2.2.2.2.2.2⟩
      exact g_vret hF rfl d_X5_lead_168 ⟨rfl, rfl, rfl, ⟨j8, kp⟩⟩
  refine (Decidable.em (a1.toInt = 28)).elim (fun q9_12_2 => ?_) (fun q9_12_2 => ?_)
  · refine g_tableIn (off := 74) hF 86 d_X5_lead_12 q9_12_2 (by decide) (by decide) (by decide +kernel) (by decide) ?_
    refine g_aload_n hF d_X5_lead_86 rfl 1 rfl ?_
    refine g_aload_n hF d_X5_lead_87 rfl 1 rfl ?_
    refine g_callV (As := []) (rest := [.ref (r 12)]) hF (c_X5_pop a g r σ0 i0) (Nat.le_of_ble_eq_true rfl) mV_X5_pop m_1681 (recv_ob obC_12) rfl rfl (Nat.le_of_ble_eq_true rfl) d_X5_lead_88 (k_i (fun r10 σ10 ⟨iσ10, ik10⟩ => ?_)) (fun _ _ _ h => h.elim)
    have kp : Keep [(11, 1), (11, 2), (12, 7), (12, 8), (12, 9), (12, 10), (12, 11), (12, 13), (12, 14), (12, 15), (12, 16), (12, 17)] [61, 62, 63, 64] σ0 σ10 := keep_c kp ik10 (by decide) (by decide)
    refine g_if_eq hF 98 d_X5_lead_91 (by decide) rfl (fun c11_91 => ?_) (fun c11_91 => ?_)
    · -- taken at 91
      refine g_aload_n hF d_X5_lead_98 rfl 1 rfl ?_
      refine g_get (v := .int (σ10 12 8)) hF 8 obC_12 (by decide) m_680 rfl d_X5_lead_99 ?_
      refine g_top (v := (σ0 12 8)) (ik10 12 8 rfl rfl rfl) ?_
      refine g_put (v := (σ0 12 8)) hF 8 obC_12 (by decide) m_680 rfl rfl rfl d_X5_lead_102 ?_
      have kp : Keep [(11, 1), (11, 2), (12, 7), (12, 8), (12, 9), (12, 10), (12, 11), (12, 13), (12, 14), (12, 15), (12, 16), (12, 17)] [61, 62, 63, 64] σ0 (upC σ10 12 8 (σ0 12 8)) := keep_f kp (by decide)
      refine g_goto hF 168 d_X5_lead_105 (by decide) ?_
      have j12 : Inv (upC σ10 12 8 (σ0 12 8)) := ⟨iσ10.1, iσ10.2.1, iσ10.2.2.1, iσ10.2.2.2.1, iσ10.2.2.2.2.1, iσ10.2.2.2.2.2.1, iσ10.2.2.2.2.2.2.1, iσ10.2.2.2.2.2.2.2.1, iσ10.2.2.2.2.2.2.2.2.1, iσ10.2.2.2.2.2.2.2.2.2.1, iσ10.2.2.2.2.2.2.2.2.2.2.1, iσ10.2.2.2.2.2.2.2.2.2.2.2.1, iσ10.2.2.2.2.2.2.2.2.2.2.2.2.1, iσ10.2.2.2.2.2.2.2.2.2.2.2.2.2.1, iσ10.2.2.2.2.2.2.2.2.2.2.2.2.2.2.1, iσ10.2.2.2.2.2.2.2.2.2.2.2.2.2.2.2.1, iσ10.2.2.2.2.2.2.2.2.2.2.2.2.2.2.2.2.1, iσ10.2.2.2.2.2.2.2.2.2.2.2.2.2.2.2.2.2.1, iσ10.2.2.2.2.2.2.2.2.2.2.2.2.2.2.2.2.2.2.1, iσ10.2.2.2.2.2.2.2.2.2.2.2.2.2.2.2.2.2.2.2⟩
      exact g_vret hF rfl d_X5_lead_168 ⟨rfl, rfl, rfl, ⟨j12, kp⟩⟩
    · -- not taken at 91
      refine g_iload_n hF d_X5_lead_94 rfl 0 rfl ?_
      refine g_goto hF 102 d_X5_lead_95 (by decide) ?_
      refine g_put (v := r1) hF 8 obC_12 (by decide) m_680 rfl rfl rfl d_X5_lead_102 ?_
      have kp : Keep [(11, 1), (11, 2), (12, 7), (12, 8), (12, 9), (12, 10), (12, 11), (12, 13), (12, 14), (12, 15), (12, 16), (12, 17)] [61, 62, 63, 64] σ0 (upC σ10 12 8 r1) := keep_f kp (by decide)
      refine g_goto hF 168 d_X5_lead_105 (by decide) ?_
      have j13 : Inv (upC σ10 12 8 r1) := ⟨iσ10.1, iσ10.2.1, iσ10.2.2.1, iσ10.2.2.2.1, iσ10.2.2.2.2.1, iσ10.2.2.2.2.2.1, iσ10.2.2.2.2.2.2.1, iσ10.2.2.2.2.2.2.2.1, iσ10.2.2.2.2.2.2.2.2.1, iσ10.2.2.2.2.2.2.2.2.2.1, iσ10.2.2.2.2.2.2.2.2.2.2.1, iσ10.2.2.2.2.2.2.2.2.2.2.2.1, iσ10.2.2.2.2.2.2.2.2.2.2.2.2.1, iσ10.2.2.2.2.2.2.2.2.2.2.2.2.2.1, iσ10.2.2.2.2.2.2.2.2.2.2.2.2.2.2.1, iσ10.2.2.2.2.2.2.2.2.2.2.2.2.2.2.2.1, iσ10.2.2.2.2.2.2.2.2.2.2.2.2.2.2.2.2.1, iσ10.2.2.2.2.2.2.2.2.2.2.2.2.2.2.2.2.2.1, iσ10.2.2.2.2.2.2.2.2.2.2.2.2.2.2.2.2.2.2.1, iσ10.2.2.2.2.2.2.2.2.2.2.2.2.2.2.2.2.2.2.2⟩
      exact g_vret hF rfl d_X5_lead_168 ⟨rfl, rfl, rfl, ⟨j13, kp⟩⟩
  refine (Decidable.em (a1.toInt = 29)).elim (fun q14_12_3 => ?_) (fun q14_12_3 => ?_)
  · refine g_tableIn (off := 96) hF 108 d_X5_lead_12 q14_12_3 (by decide) (by decide) (by decide +kernel) (by decide) ?_
    refine g_aload_n hF d_X5_lead_108 rfl 1 rfl ?_
    refine g_iload_n hF d_X5_lead_109 rfl 2 rfl ?_
    refine g_bipush hF (v := 30) d_X5_lead_110 (by decide) ?_
    refine g_icmp_ne (yv := 30) hF 119 d_X5_lead_112 (by decide) rfl (by decide) (fun c15_112 => ?_) (fun c15_112 => ?_)
    · -- taken at 112
      refine g_iconst hF (v := 0) d_X5_lead_119 (by decide) ?_
      refine g_iload_n hF d_X5_lead_120 rfl 0 rfl ?_
      refine g_callV (As := [.int 0, .int r1]) (rest := []) hF (c_X5_decide a g r σ0 (0 : Int32) r1 i0 (Or.inl rfl)) (Nat.le_of_ble_eq_true rfl) mV_X5_decide m_1694 (recv_ob obC_12) rfl rfl (Nat.le_of_ble_eq_true rfl) d_X5_lead_121 (k_v (fun σ16 ⟨iσ16, ik16⟩ => ?_)) (fun _ _ _ h => h.elim)
      have kp : Keep [(11, 1), (11, 2), (12, 7), (12, 8), (12, 9), (12, 10), (12, 11), (12, 13), (12, 14), (12, 15), (12, 16), (12, 17)] [61, 62, 63, 64] σ0 σ16 := keep_c kp ik16 (by decide) (by decide)
      refine g_goto hF 168 d_X5_lead_124 (by decide) ?_
      exact g_vret hF rfl d_X5_lead_168 ⟨rfl, rfl, rfl, ⟨iσ16, kp⟩⟩
    · -- not taken at 112
      refine g_iconst hF (v := 1) d_X5_lead_115 (by decide) ?_
      refine g_goto hF 120 d_X5_lead_116 (by decide) ?_
      refine g_iload_n hF d_X5_lead_120 rfl 0 rfl ?_
      refine g_callV (As := [.int 1, .int r1]) (rest := []) hF (c_X5_decide a g r σ0 (1 : Int32) r1 i0 (Or.inr rfl)) (Nat.le_of_ble_eq_true rfl) mV_X5_decide m_1694 (recv_ob obC_12) rfl rfl (Nat.le_of_ble_eq_true rfl) d_X5_lead_121 (k_v (fun σ17 ⟨iσ17, ik17⟩ => ?_)) (fun _ _ _ h => h.elim)
      have kp : Keep [(11, 1), (11, 2), (12, 7), (12, 8), (12, 9), (12, 10), (12, 11), (12, 13), (12, 14), (12, 15), (12, 16), (12, 17)] [61, 62, 63, 64] σ0 σ17 := keep_c kp ik17 (by decide) (by decide)
      refine g_goto hF 168 d_X5_lead_124 (by decide) ?_
      exact g_vret hF rfl d_X5_lead_168 ⟨rfl, rfl, rfl, ⟨iσ17, kp⟩⟩
  refine (Decidable.em (a1.toInt = 30)).elim (fun q18_12_4 => ?_) (fun q18_12_4 => ?_)
  · refine g_tableIn (off := 96) hF 108 d_X5_lead_12 q18_12_4 (by decide) (by decide) (by decide +kernel) (by decide) ?_
    refine g_aload_n hF d_X5_lead_108 rfl 1 rfl ?_
    refine g_iload_n hF d_X5_lead_109 rfl 2 rfl ?_
    refine g_bipush hF (v := 30) d_X5_lead_110 (by decide) ?_
    refine g_icmp_ne (yv := 30) hF 119 d_X5_lead_112 (by decide) rfl (by decide) (fun c19_112 => ?_) (fun c19_112 => ?_)
    · -- taken at 112
      refine g_iconst hF (v := 0) d_X5_lead_119 (by decide) ?_
      refine g_iload_n hF d_X5_lead_120 rfl 0 rfl ?_
      refine g_callV (As := [.int 0, .int r1]) (rest := []) hF (c_X5_decide a g r σ0 (0 : Int32) r1 i0 (Or.inl rfl)) (Nat.le_of_ble_eq_true rfl) mV_X5_decide m_1694 (recv_ob obC_12) rfl rfl (Nat.le_of_ble_eq_true rfl) d_X5_lead_121 (k_v (fun σ20 ⟨iσ20, ik20⟩ => ?_)) (fun _ _ _ h => h.elim)
      have kp : Keep [(11, 1), (11, 2), (12, 7), (12, 8), (12, 9), (12, 10), (12, 11), (12, 13), (12, 14), (12, 15), (12, 16), (12, 17)] [61, 62, 63, 64] σ0 σ20 := keep_c kp ik20 (by decide) (by decide)
      refine g_goto hF 168 d_X5_lead_124 (by decide) ?_
      exact g_vret hF rfl d_X5_lead_168 ⟨rfl, rfl, rfl, ⟨iσ20, kp⟩⟩
    · -- not taken at 112
      refine g_iconst hF (v := 1) d_X5_lead_115 (by decide) ?_
      refine g_goto hF 120 d_X5_lead_116 (by decide) ?_
      refine g_iload_n hF d_X5_lead_120 rfl 0 rfl ?_
      refine g_callV (As := [.int 1, .int r1]) (rest := []) hF (c_X5_decide a g r σ0 (1 : Int32) r1 i0 (Or.inr rfl)) (Nat.le_of_ble_eq_true rfl) mV_X5_decide m_1694 (recv_ob obC_12) rfl rfl (Nat.le_of_ble_eq_true rfl) d_X5_lead_121 (k_v (fun σ21 ⟨iσ21, ik21⟩ => ?_)) (fun _ _ _ h => h.elim)
      have kp : Keep [(11, 1), (11, 2), (12, 7), (12, 8), (12, 9), (12, 10), (12, 11), (12, 13), (12, 14), (12, 15), (12, 16), (12, 17)] [61, 62, 63, 64] σ0 σ21 := keep_c kp ik21 (by decide) (by decide)
      refine g_goto hF 168 d_X5_lead_124 (by decide) ?_
      exact g_vret hF rfl d_X5_lead_168 ⟨rfl, rfl, rfl, ⟨iσ21, kp⟩⟩
  refine (Decidable.em (a1.toInt = 31)).elim (fun q22_12_5 => ?_) (fun q22_12_5 => ?_)
  · refine g_tableIn (off := 115) hF 127 d_X5_lead_12 q22_12_5 (by decide) (by decide) (by decide +kernel) (by decide) ?_
    refine g_aload_n hF d_X5_lead_127 rfl 1 rfl ?_
    refine g_iload_n hF d_X5_lead_128 rfl 0 rfl ?_
    refine g_callV (As := [.int r1]) (rest := []) hF (c_X5_turn a g r σ0 r1 i0) (Nat.le_of_ble_eq_true rfl) mV_X5_turn m_1652 (recv_ob obC_12) rfl rfl (Nat.le_of_ble_eq_true rfl) d_X5_lead_129 (k_i (fun r23 σ23 ⟨hz23, iσ23, ik23⟩ => ?_)) (fun _ _ _ h => h.elim)
    have kp : Keep [(11, 1), (11, 2), (12, 7), (12, 8), (12, 9), (12, 10), (12, 11), (12, 13), (12, 14), (12, 15), (12, 16), (12, 17)] [61, 62, 63, 64] σ0 σ23 := keep_c kp ik23 (by decide) (by decide)
    refine g_pop hF d_X5_lead_132 rfl ?_
    refine g_goto hF 168 d_X5_lead_133 (by decide) ?_
    exact g_vret hF rfl d_X5_lead_168 ⟨rfl, rfl, rfl, ⟨iσ23, kp⟩⟩
  refine (Decidable.em (a1.toInt = 32)).elim (fun q24_12_6 => ?_) (fun q24_12_6 => ?_)
  · refine g_tableIn (off := 124) hF 136 d_X5_lead_12 q24_12_6 (by decide) (by decide) (by decide +kernel) (by decide) ?_
    refine g_aload_n hF d_X5_lead_136 rfl 1 rfl ?_
    refine g_aload_n hF d_X5_lead_137 rfl 1 rfl ?_
    refine g_get (v := .ref (r 10)) hF 1 obC_12 (by decide) m_672 rfl d_X5_lead_138 ?_
    refine g_getN (v := .ref (r 59)) hF 10 obC_10 (by decide) nm_612 rfl d_X5_lead_141 ?_
    refine g_iload_n hF d_X5_lead_144 rfl 0 rfl ?_
    refine g_callSN (As := [.ref (r 59), .int r1]) (rest := [.ref (r 12)]) hF (c_at a g r σ0 arC_59 (by decide) r1) (Nat.le_of_ble_eq_true rfl) mS_X12_at nm_1660 rfl rfl (Nat.le_of_ble_eq_true rfl) d_X5_lead_145 (k_rop (fun r25 hr25 => ?_))
    refine g_aload_n hF d_X5_lead_148 rfl 1 rfl ?_
    refine g_get (v := .ref (r 24)) hF 3 obC_12 (by decide) m_674 rfl d_X5_lead_149 ?_
    refine g_iload_n hF d_X5_lead_152 rfl 3 rfl ?_
    refine g_iconst hF (v := 2) d_X5_lead_153 (by decide) ?_
    refine g_iadd hF d_X5_lead_154 ?_
    refine g_callSN (As := [.ref (r 24), .int (a2 + 2)]) (rest := [.int r25, .ref (r 12)]) hF (c_at a g r σ0 arC_24 (by decide) (a2 + 2)) (Nat.le_of_ble_eq_true rfl) mS_X12_at nm_1660 rfl rfl (Nat.le_of_ble_eq_true rfl) d_X5_lead_155 (k_rop (fun r26 hr26 => ?_))
    refine g_callV (As := [.int r25, .int r26]) (rest := []) hF (c_X5_call a g r σ0 r25 r26 i0) (Nat.le_of_ble_eq_true rfl) mV_X5_call m_1698 (recv_ob obC_12) rfl rfl (Nat.le_of_ble_eq_true rfl) d_X5_lead_158 (k_v (fun σ27 ⟨iσ27, ik27⟩ => ?_)) (fun _ _ _ h => h.elim)
    have kp : Keep [(11, 1), (11, 2), (12, 7), (12, 8), (12, 9), (12, 10), (12, 11), (12, 13), (12, 14), (12, 15), (12, 16), (12, 17)] [61, 62, 63, 64] σ0 σ27 := keep_c kp ik27 (by decide) (by decide)
    refine g_goto hF 168 d_X5_lead_161 (by decide) ?_
    exact g_vret hF rfl d_X5_lead_168 ⟨rfl, rfl, rfl, ⟨iσ27, kp⟩⟩
  refine g_tableOut hF 164 d_X5_lead_12 rfl (by omega) (by decide) ?_
  refine g_aload_n hF d_X5_lead_164 rfl 1 rfl ?_
  refine g_callV (As := []) (rest := []) hF (c_X5_giveBack a g r σ0 i0) (Nat.le_of_ble_eq_true rfl) mV_X5_giveBack m_1724 (recv_ob obC_12) rfl rfl (Nat.le_of_ble_eq_true rfl) d_X5_lead_165 (k_v (fun σ28 ⟨iσ28, ik28⟩ => ?_)) (fun _ _ _ h => h.elim)
  have kp : Keep [(11, 1), (11, 2), (12, 7), (12, 8), (12, 9), (12, 10), (12, 11), (12, 13), (12, 14), (12, 15), (12, 16), (12, 17)] [61, 62, 63, 64] σ0 σ28 := keep_c kp ik28 (by decide) (by decide)
  exact g_vret hF rfl d_X5_lead_168 ⟨rfl, rfl, rfl, ⟨iσ28, kp⟩⟩
set_option maxHeartbeats 4000000 in
set_option maxRecDepth 100000 in
theorem c_X2_take (a : Nat → Nat) (g : Nat → Nat → Int32) (r : Nat → Nat) (σ0 : St) (a1 : Int32) (i0 : Inv σ0) (l : Launch) (D : va_G) (cy : Nat → ClassId) : Ct l D cy SC r (EC a g) y_X2_take (Cond.code y_X2_take b_X2_take 3 none) 5 [.ref (r 7), .int a1] σ0 Z0 [] (QV (fun σ9 => (Inv σ9 ∧ Keep [(4, 1), (5, 9), (6, 3), (6, 4), (6, 5), (7, 7)] [17, 24, 25, 31, 32, 33, 39, 43] σ0 σ9))) QF := by
  refine Ct_of (EC_ok a g) (by decide) (Nat.le_of_ble_eq_true rfl) (by decide) (fun X hnn hF => ?_)
  show G SC r X σ0 Z0 [] [(0, .ref (r 7)), (1, .int a1)] [] 0
  have kp : Keep [(4, 1), (5, 9), (6, 3), (6, 4), (6, 5), (7, 7)] [17, 24, 25, 31, 32, 33, 39, 43] σ0 σ0 := keep_rf
  refine g_aload_n hF d_X2_take_0 rfl 0 rfl ?_
  refine g_get (v := .ref (r 3)) hF 0 obC_7 (by decide) m_456 rfl d_X2_take_1 ?_
  refine g_getN (v := .ref (r 19)) hF 6 obC_3 (by decide) nm_105 rfl d_X2_take_4 ?_
  refine g_iload_n hF d_X2_take_7 rfl 1 rfl ?_
  refine g_callSN (As := [.ref (r 19), .int a1]) (rest := []) hF (c_at a g r σ0 arC_19 (by decide) a1) (Nat.le_of_ble_eq_true rfl) mS_X12_at nm_1058 rfl rfl (Nat.le_of_ble_eq_true rfl) d_X2_take_8 (k_rop (fun r1 hr1 => ?_))
  have hs1 := hr1
  refine g_istore_n hF [(2, .int r1), (0, .ref (r 7)), (1, .int a1)] d_X2_take_11 rfl hnn (by decide) rfl ?_
  refine g_aload_n hF d_X2_take_12 rfl 1 rfl ?_
  refine g_get (v := .ref (r 3)) hF 0 obC_7 (by decide) m_456 rfl d_X2_take_13 ?_
  refine g_getN (v := .ref (r 18)) hF 5 obC_3 (by decide) nm_102 rfl d_X2_take_16 ?_
  refine g_iload_n hF d_X2_take_19 rfl 2 rfl ?_
  refine g_callSN (As := [.ref (r 18), .int a1]) (rest := []) hF (c_at a g r σ0 arC_18 (by decide) a1) (Nat.le_of_ble_eq_true rfl) mS_X12_at nm_1058 rfl rfl (Nat.le_of_ble_eq_true rfl) d_X2_take_20 (k_rop (fun r2 hr2 => ?_))
  have hs2 := hr2
  refine (Decidable.em (r2.toInt = 1)).elim (fun q3_23_0 => ?_) (fun q3_23_0 => ?_)
  · refine g_tableIn (off := 73) hF 96 d_X2_take_23 q3_23_0 (by decide) (by decide) (by decide +kernel) (by decide) ?_
    refine g_aload_n hF d_X2_take_96 rfl 1 rfl ?_
    refine g_iload_n hF d_X2_take_97 rfl 0 rfl ?_
    refine g_callV (As := [.int r1]) (rest := []) hF (c_X2_number a g r σ0 r1 i0) (Nat.le_of_ble_eq_true rfl) mV_X2_number m_1059 (recv_ob obC_7) rfl rfl (Nat.le_of_ble_eq_true rfl) d_X2_take_98 (k_v (fun σ4 ⟨iσ4, ik4⟩ => ?_)) (fun _ _ _ h => h.elim)
    have kp : Keep [(4, 1), (5, 9), (6, 3), (6, 4), (6, 5), (7, 7)] [17, 24, 25, 31, 32, 33, 39, 43] σ0 σ4 := keep_c kp ik4 (by decide) (by decide)
    refine g_goto hF 250 d_X2_take_101 (by decide) ?_
    exact g_vret hF rfl d_X2_take_250 ⟨rfl, rfl, rfl, ⟨iσ4, kp⟩⟩
  refine (Decidable.em (r2.toInt = 2)).elim (fun q5_23_1 => ?_) (fun q5_23_1 => ?_)
  · refine g_tableIn (off := 81) hF 104 d_X2_take_23 q5_23_1 (by decide) (by decide) (by decide +kernel) (by decide) ?_
    refine g_aload_n hF d_X2_take_104 rfl 1 rfl ?_
    refine g_iload_n hF d_X2_take_105 rfl 0 rfl ?_
    refine g_callV (As := [.int r1]) (rest := []) hF (c_X2_string a g r σ0 r1 i0) (Nat.le_of_ble_eq_true rfl) mV_X2_string m_1077 (recv_ob obC_7) rfl rfl (Nat.le_of_ble_eq_true rfl) d_X2_take_106 (k_v (fun σ6 ⟨iσ6, ik6⟩ => ?_)) (fun _ _ _ h => h.elim)
    have kp : Keep [(4, 1), (5, 9), (6, 3), (6, 4), (6, 5), (7, 7)] [17, 24, 25, 31, 32, 33, 39, 43] σ0 σ6 := keep_c kp ik6 (by decide) (by decide)
    refine g_goto hF 250 d_X2_take_109 (by decide) ?_
    exact g_vret hF rfl d_X2_take_250 ⟨rfl, rfl, rfl, ⟨iσ6, kp⟩⟩
  refine (Decidable.em (r2.toInt = 3)).elim (fun q7_23_2 => ?_) (fun q7_23_2 => ?_)
  · refine g_tableIn (off := 89) hF 112 d_X2_take_23 q7_23_2 (by decide) (by decide) (by decide +kernel) (by decide) ?_
    refine g_aload_n hF d_X2_take_112 rfl 1 rfl ?_
    refine g_iload_n hF d_X2_take_113 rfl 0 rfl ?_
    refine g_callV (As := [.int r1]) (rest := []) hF (c_X2_named a g r σ0 r1 i0) (Nat.le_of_ble_eq_true rfl) mV_X2_named m_1104 (recv_ob obC_7) rfl rfl (Nat.le_of_ble_eq_true rfl) d_X2_take_114 (k_v (fun σ8 ⟨iσ8, ik8⟩ => ?_)) (fun _ _ _ h => h.elim)
    have kp : Keep [(4, 1), (5, 9), (6, 3), (6, 4), (6, 5), (7, 7)] [17, 24, 25, 31, 32, 33, 39, 43] σ0 σ8 := keep_c kp ik8 (by decide) (by decide)
    refine g_goto hF 250 d_X2_take_117 (by decide) ?_
    exact g_vret hF rfl d_X2_take_250 ⟨rfl, rfl, rfl, ⟨iσ8, kp⟩⟩
  refine (Decidable.em (r2.toInt = 4)).elim (fun q9_23_3 => ?_) (fun q9_23_3 => ?_)
  · refine g_tableIn (off := 97) hF 120 d_X2_take_23 q9_23_3 (by decide) (by decide) (by decide +kernel) (by decide) ?_
    refine g_aload_n hF d_X2_take_120 rfl 1 rfl ?_
    refine g_iload_n hF d_X2_take_121 rfl 0 rfl ?_
    refine g_callV (As := [.int r1]) (rest := []) hF (c_X2_callee a g r σ0 r1 i0) (Nat.le_of_ble_eq_true rfl) mV_X2_callee m_1142 (recv_ob obC_7) rfl rfl (Nat.le_of_ble_eq_true rfl) d_X2_take_122 (k_v (fun σ10 ⟨iσ10, ik10⟩ => ?_)) (fun _ _ _ h => h.elim)
    have kp : Keep [(4, 1), (5, 9), (6, 3), (6, 4), (6, 5), (7, 7)] [17, 24, 25, 31, 32, 33, 39, 43] σ0 σ10 := keep_c kp ik10 (by decide) (by decide)
    refine g_goto hF 250 d_X2_take_125 (by decide) ?_
    exact g_vret hF rfl d_X2_take_250 ⟨rfl, rfl, rfl, ⟨iσ10, kp⟩⟩
  refine (Decidable.em (r2.toInt = 5)).elim (fun q11_23_4 => ?_) (fun q11_23_4 => ?_)
  · refine g_tableIn (off := 105) hF 128 d_X2_take_23 q11_23_4 (by decide) (by decide) (by decide +kernel) (by decide) ?_
    refine g_aload_n hF d_X2_take_128 rfl 1 rfl ?_
    refine g_callV (As := []) (rest := []) hF (c_X2_argument a g r σ0 i0) (Nat.le_of_ble_eq_true rfl) mV_X2_argument m_1152 (recv_ob obC_7) rfl rfl (Nat.le_of_ble_eq_true rfl) d_X2_take_129 (k_v (fun σ12 ⟨iσ12, ik12⟩ => ?_)) (fun _ _ _ h => h.elim)
    have kp : Keep [(4, 1), (5, 9), (6, 3), (6, 4), (6, 5), (7, 7)] [17, 24, 25, 31, 32, 33, 39, 43] σ0 σ12 := keep_c kp ik12 (by decide) (by decide)
    refine g_goto hF 250 d_X2_take_132 (by decide) ?_
    exact g_vret hF rfl d_X2_take_250 ⟨rfl, rfl, rfl, ⟨iσ12, kp⟩⟩
  refine (Decidable.em (r2.toInt = 6)).elim (fun q13_23_5 => ?_) (fun q13_23_5 => ?_)
  · refine g_tableIn (off := 112) hF 135 d_X2_take_23 q13_23_5 (by decide) (by decide) (by decide +kernel) (by decide) ?_
    refine g_aload_n hF d_X2_take_135 rfl 1 rfl ?_
    refine g_iload_n hF d_X2_take_136 rfl 0 rfl ?_
    refine g_callV (As := [.int r1]) (rest := []) hF (c_X2_call a g r σ0 r1 i0) (Nat.le_of_ble_eq_true rfl) mV_X2_call m_1178 (recv_ob obC_7) rfl rfl (Nat.le_of_ble_eq_true rfl) d_X2_take_137 (k_v (fun σ14 ⟨iσ14, ik14⟩ => ?_)) (fun _ _ _ h => h.elim)
    have kp : Keep [(4, 1), (5, 9), (6, 3), (6, 4), (6, 5), (7, 7)] [17, 24, 25, 31, 32, 33, 39, 43] σ0 σ14 := keep_c kp ik14 (by decide) (by decide)
    refine g_goto hF 250 d_X2_take_140 (by decide) ?_
    exact g_vret hF rfl d_X2_take_250 ⟨rfl, rfl, rfl, ⟨iσ14, kp⟩⟩
  refine (Decidable.em (r2.toInt = 7)).elim (fun q15_23_6 => ?_) (fun q15_23_6 => ?_)
  · refine g_tableIn (off := 120) hF 143 d_X2_take_23 q15_23_6 (by decide) (by decide) (by decide +kernel) (by decide) ?_
    refine g_aload_n hF d_X2_take_143 rfl 1 rfl ?_
    refine g_iload_n hF d_X2_take_144 rfl 0 rfl ?_
    refine g_callV (As := [.int r1]) (rest := []) hF (c_X2_left a g r σ0 r1 i0) (Nat.le_of_ble_eq_true rfl) mV_X2_left m_1190 (recv_ob obC_7) rfl rfl (Nat.le_of_ble_eq_true rfl) d_X2_take_145 (k_v (fun σ16 ⟨iσ16, ik16⟩ => ?_)) (fun _ _ _ h => h.elim)
    have kp : Keep [(4, 1), (5, 9), (6, 3), (6, 4), (6, 5), (7, 7)] [17, 24, 25, 31, 32, 33, 39, 43] σ0 σ16 := keep_c kp ik16 (by decide) (by decide)
    refine g_goto hF 250 d_X2_take_148 (by decide) ?_
    exact g_vret hF rfl d_X2_take_250 ⟨rfl, rfl, rfl, ⟨iσ16, kp⟩⟩
  refine (Decidable.em (r2.toInt = 8)).elim (fun q17_23_7 => ?_) (fun q17_23_7 => ?_)
  · refine g_tableIn (off := 128) hF 151 d_X2_take_23 q17_23_7 (by decide) (by decide) (by decide +kernel) (by decide) ?_
    refine g_aload_n hF d_X2_take_151 rfl 1 rfl ?_
    refine g_iload_n hF d_X2_take_152 rfl 0 rfl ?_
    refine g_callV (As := [.int r1]) (rest := []) hF (c_X2_binary a g r σ0 r1 i0) (Nat.le_of_ble_eq_true rfl) mV_X2_binary m_1202 (recv_ob obC_7) rfl rfl (Nat.le_of_ble_eq_true rfl) d_X2_take_153 (k_v (fun σ18 ⟨iσ18, ik18⟩ => ?_)) (fun _ _ _ h => h.elim)
    have kp : Keep [(4, 1), (5, 9), (6, 3), (6, 4), (6, 5), (7, 7)] [17, 24, 25, 31, 32, 33, 39, 43] σ0 σ18 := keep_c kp ik18 (by decide) (by decide)
    refine g_goto hF 250 d_X2_take_156 (by decide) ?_
    exact g_vret hF rfl d_X2_take_250 ⟨rfl, rfl, rfl, ⟨iσ18, kp⟩⟩
  refine (Decidable.em (r2.toInt = 9)).elim (fun q19_23_8 => ?_) (fun q19_23_8 => ?_)
  · refine g_tableIn (off := 136) hF 159 d_X2_take_23 q19_23_8 (by decide) (by decide) (by decide +kernel) (by decide) ?_
    refine g_aload_n hF d_X2_take_159 rfl 1 rfl ?_
    refine g_iload_n hF d_X2_take_160 rfl 0 rfl ?_
    refine g_callV (As := [.int r1]) (rest := []) hF (c_X2_assign a g r σ0 r1 i0) (Nat.le_of_ble_eq_true rfl) mV_X2_assign m_1242 (recv_ob obC_7) rfl rfl (Nat.le_of_ble_eq_true rfl) d_X2_take_161 (k_v (fun σ20 ⟨iσ20, ik20⟩ => ?_)) (fun _ _ _ h => h.elim)
    have kp : Keep [(4, 1), (5, 9), (6, 3), (6, 4), (6, 5), (7, 7)] [17, 24, 25, 31, 32, 33, 39, 43] σ0 σ20 := keep_c kp ik20 (by decide) (by decide)
    refine g_goto hF 250 d_X2_take_164 (by decide) ?_
    exact g_vret hF rfl d_X2_take_250 ⟨rfl, rfl, rfl, ⟨iσ20, kp⟩⟩
  refine (Decidable.em (r2.toInt = 10)).elim (fun q21_23_9 => ?_) (fun q21_23_9 => ?_)
  · refine g_tableIn (off := 144) hF 167 d_X2_take_23 q21_23_9 (by decide) (by decide) (by decide +kernel) (by decide) ?_
    refine g_aload_n hF d_X2_take_167 rfl 1 rfl ?_
    refine g_iload_n hF d_X2_take_168 rfl 0 rfl ?_
    refine g_callV (As := [.int r1]) (rest := []) hF (c_X2_index a g r σ0 r1 i0) (Nat.le_of_ble_eq_true rfl) mV_X2_index m_1246 (recv_ob obC_7) rfl rfl (Nat.le_of_ble_eq_true rfl) d_X2_take_169 (k_v (fun σ22 ⟨iσ22, ik22⟩ => ?_)) (fun _ _ _ h => h.elim)
    have kp : Keep [(4, 1), (5, 9), (6, 3), (6, 4), (6, 5), (7, 7)] [17, 24, 25, 31, 32, 33, 39, 43] σ0 σ22 := keep_c kp ik22 (by decide) (by decide)
    refine g_goto hF 250 d_X2_take_172 (by decide) ?_
    exact g_vret hF rfl d_X2_take_250 ⟨rfl, rfl, rfl, ⟨iσ22, kp⟩⟩
  refine (Decidable.em (r2.toInt = 11)).elim (fun q23_23_10 => ?_) (fun q23_23_10 => ?_)
  · refine g_tableIn (off := 152) hF 175 d_X2_take_23 q23_23_10 (by decide) (by decide) (by decide +kernel) (by decide) ?_
    refine g_aload_n hF d_X2_take_175 rfl 1 rfl ?_
    refine g_iload_n hF d_X2_take_176 rfl 0 rfl ?_
    refine g_callV (As := [.int r1]) (rest := []) hF (c_X2_unary a g r σ0 r1 i0) (Nat.le_of_ble_eq_true rfl) mV_X2_unary m_1254 (recv_ob obC_7) rfl rfl (Nat.le_of_ble_eq_true rfl) d_X2_take_177 (k_v (fun σ24 ⟨iσ24, ik24⟩ => ?_)) (fun _ _ _ h => h.elim)
    have kp : Keep [(4, 1), (5, 9), (6, 3), (6, 4), (6, 5), (7, 7)] [17, 24, 25, 31, 32, 33, 39, 43] σ0 σ24 := keep_c kp ik24 (by decide) (by decide)
    refine g_goto hF 250 d_X2_take_180 (by decide) ?_
    exact g_vret hF rfl d_X2_take_250 ⟨rfl, rfl, rfl, ⟨iσ24, kp⟩⟩
  refine (Decidable.em (r2.toInt = 12)).elim (fun q25_23_11 => ?_) (fun q25_23_11 => ?_)
  · refine g_tableIn (off := 160) hF 183 d_X2_take_23 q25_23_11 (by decide) (by decide) (by decide +kernel) (by decide) ?_
    refine g_aload_n hF d_X2_take_183 rfl 1 rfl ?_
    refine g_iload_n hF d_X2_take_184 rfl 0 rfl ?_
    refine g_aload_n hF d_X2_take_185 rfl 1 rfl ?_
    refine g_get (v := .ref (r 3)) hF 0 obC_7 (by decide) m_456 rfl d_X2_take_186 ?_
    refine g_getN (v := .ref (r 20)) hF 7 obC_3 (by decide) nm_110 rfl d_X2_take_189 ?_
    refine g_iload_n hF d_X2_take_192 rfl 2 rfl ?_
    refine g_callSN (As := [.ref (r 20), .int a1]) (rest := [.int r1, .ref (r 7)]) hF (c_at a g r σ0 arC_20 (by decide) a1) (Nat.le_of_ble_eq_true rfl) mS_X12_at nm_1058 rfl rfl (Nat.le_of_ble_eq_true rfl) d_X2_take_193 (k_rop (fun r26 hr26 => ?_))
    refine g_callV (As := [.int r1, .int r26]) (rest := []) hF (c_X2_cast a g r σ0 r1 r26 i0) (Nat.le_of_ble_eq_true rfl) mV_X2_cast m_1269 (recv_ob obC_7) rfl rfl (Nat.le_of_ble_eq_true rfl) d_X2_take_196 (k_v (fun σ27 ⟨iσ27, ik27⟩ => ?_)) (fun _ _ _ h => h.elim)
    have kp : Keep [(4, 1), (5, 9), (6, 3), (6, 4), (6, 5), (7, 7)] [17, 24, 25, 31, 32, 33, 39, 43] σ0 σ27 := keep_c kp ik27 (by decide) (by decide)
    refine g_goto hF 250 d_X2_take_199 (by decide) ?_
    exact g_vret hF rfl d_X2_take_250 ⟨rfl, rfl, rfl, ⟨iσ27, kp⟩⟩
  refine (Decidable.em (r2.toInt = 13)).elim (fun q28_23_12 => ?_) (fun q28_23_12 => ?_)
  · refine g_tableIn (off := 179) hF 202 d_X2_take_23 q28_23_12 (by decide) (by decide) (by decide +kernel) (by decide) ?_
    refine g_aload_n hF d_X2_take_202 rfl 1 rfl ?_
    refine g_aload_n hF d_X2_take_203 rfl 1 rfl ?_
    refine g_callV (As := []) (rest := [.ref (r 7)]) hF (c_X2_top a g r σ0 i0) (Nat.le_of_ble_eq_true rfl) mV_X2_top m_1160 (recv_ob obC_7) rfl rfl (Nat.le_of_ble_eq_true rfl) d_X2_take_204 (k_roa (fun q29 hq29 => ?_)) (fun _ _ _ h => h.elim)
    refine g_iload_n hF d_X2_take_207 rfl 0 rfl ?_
    refine g_iconst hF (v := 1) d_X2_take_208 (by decide) ?_
    refine g_callV (As := [.ref (r q29), .int r1, .int 1]) (rest := []) hF (c_X2_step a g r σ0 r1 (1 : Int32) q29 hq29 i0 (Or.inr rfl)) (Nat.le_of_ble_eq_true rfl) mV_X2_step m_1258 (recv_ob obC_7) rfl rfl (Nat.le_of_ble_eq_true rfl) d_X2_take_209 (k_v (fun σ30 ⟨iσ30, ik30⟩ => ?_)) (fun _ _ _ h => h.elim)
    have kp : Keep [(4, 1), (5, 9), (6, 3), (6, 4), (6, 5), (7, 7)] [17, 24, 25, 31, 32, 33, 39, 43] σ0 σ30 := keep_c kp ik30 (by decide) (by decide)
    refine g_goto hF 250 d_X2_take_212 (by decide) ?_
    exact g_vret hF rfl d_X2_take_250 ⟨rfl, rfl, rfl, ⟨iσ30, kp⟩⟩
  refine (Decidable.em (r2.toInt = 14)).elim (fun q31_23_13 => ?_) (fun q31_23_13 => ?_)
  · refine g_tableIn (off := 192) hF 215 d_X2_take_23 q31_23_13 (by decide) (by decide) (by decide +kernel) (by decide) ?_
    refine g_aload_n hF d_X2_take_215 rfl 1 rfl ?_
    refine g_callV (As := []) (rest := []) hF (c_X2_top a g r σ0 i0) (Nat.le_of_ble_eq_true rfl) mV_X2_top m_1160 (recv_ob obC_7) rfl rfl (Nat.le_of_ble_eq_true rfl) d_X2_take_216 (k_roa (fun q32 hq32 => ?_)) (fun _ _ _ h => h.elim)
    refine g_aload_n hF d_X2_take_219 rfl 1 rfl ?_
    refine g_aload_n hF d_X2_take_220 rfl 1 rfl ?_
    refine g_aload_n hF d_X2_take_221 rfl 1 rfl ?_
    refine g_callV (As := []) (rest := [.ref (r 7), .ref (r 7), .ref (r q32)]) hF (c_X2_top a g r σ0 i0) (Nat.le_of_ble_eq_true rfl) mV_X2_top m_1160 (recv_ob obC_7) rfl rfl (Nat.le_of_ble_eq_true rfl) d_X2_take_222 (k_roa (fun q33 hq33 => ?_)) (fun _ _ _ h => h.elim)
    refine g_callV (As := [.ref (r q33)]) (rest := [.ref (r 7), .ref (r q32)]) hF (c_X2_loaded a g r σ0 q33 hq33 i0) (Nat.le_of_ble_eq_true rfl) mV_X2_loaded m_1164 (recv_ob obC_7) rfl rfl (Nat.le_of_ble_eq_true rfl) d_X2_take_225 (k_a (fun q34 σ34 ⟨hq34, iσ34, ik34⟩ => ?_)) (fun _ _ _ h => h.elim)
    have kp : Keep [(4, 1), (5, 9), (6, 3), (6, 4), (6, 5), (7, 7)] [17, 24, 25, 31, 32, 33, 39, 43] σ0 σ34 := keep_c kp ik34 (by decide) (by decide)
    refine g_iconst hF (v := (-1)) d_X2_take_228 (by decide) ?_
    refine g_callV (As := [.ref (r q34), .int (-1)]) (rest := [.ref (r q32)]) hF (c_X2_unless a g r σ34 ((-1) : Int32) q34 hq34 iσ34) (Nat.le_of_ble_eq_true rfl) mV_X2_unless m_1273 (recv_ob obC_7) rfl rfl (Nat.le_of_ble_eq_true rfl) d_X2_take_229 (k_i (fun r35 σ35 ⟨iσ35, ik35⟩ => ?_)) (fun _ _ _ h => h.elim)
    have kp : Keep [(4, 1), (5, 9), (6, 3), (6, 4), (6, 5), (7, 7)] [17, 24, 25, 31, 32, 33, 39, 43] σ0 σ35 := keep_c kp ik35 (by decide) (by decide)
    refine g_putN hF 10 (obC_op hq32) (by decide) nm_424 rfl rfl (rf_op hq32) d_X2_take_232 ?_
    obtain ⟨σ36, eσ36⟩ : ∃ z, z = upC σ35 q32 10 r35 := ⟨_, rfl⟩
    rw [← eσ36]
    have ik36 : Keep [] [] σ35 σ36 := by rw [eσ36]; exact keep_op hq32
    have kp : Keep [(4, 1), (5, 9), (6, 3), (6, 4), (6, 5), (7, 7)] [17, 24, 25, 31, 32, 33, 39, 43] σ0 σ36 := keep_c kp ik36 (by decide) (by decide)
    have iσ36 : Inv σ36 := inv_keep ik36 iσ35
    refine g_goto hF 250 d_X2_take_235 (by decide) ?_
    exact g_vret hF rfl d_X2_take_250 ⟨rfl, rfl, rfl, ⟨iσ36, kp⟩⟩
  refine (Decidable.em (r2.toInt = 15)).elim (fun q37_23_14 => ?_) (fun q37_23_14 => ?_)
  · refine g_tableIn (off := 215) hF 238 d_X2_take_23 q37_23_14 (by decide) (by decide) (by decide +kernel) (by decide) ?_
    refine g_aload_n hF d_X2_take_238 rfl 1 rfl ?_
    refine g_callV (As := []) (rest := []) hF (c_X2_colon a g r σ0 i0) (Nat.le_of_ble_eq_true rfl) mV_X2_colon m_1277 (recv_ob obC_7) rfl rfl (Nat.le_of_ble_eq_true rfl) d_X2_take_239 (k_v (fun σ38 ⟨iσ38, ik38⟩ => ?_)) (fun _ _ _ h => h.elim)
    have kp : Keep [(4, 1), (5, 9), (6, 3), (6, 4), (6, 5), (7, 7)] [17, 24, 25, 31, 32, 33, 39, 43] σ0 σ38 := keep_c kp ik38 (by decide) (by decide)
    refine g_goto hF 250 d_X2_take_242 (by decide) ?_
    exact g_vret hF rfl d_X2_take_250 ⟨rfl, rfl, rfl, ⟨iσ38, kp⟩⟩
  refine g_tableOut hF 245 d_X2_take_23 rfl (by omega) (by decide) ?_
  refine g_aload_n hF d_X2_take_245 rfl 1 rfl ?_
  refine g_iload_n hF d_X2_take_246 rfl 0 rfl ?_
  refine g_callV (As := [.int r1]) (rest := []) hF (c_X2_choice a g r σ0 r1 i0) (Nat.le_of_ble_eq_true rfl) mV_X2_choice m_1281 (recv_ob obC_7) rfl rfl (Nat.le_of_ble_eq_true rfl) d_X2_take_247 (k_v (fun σ39 ⟨iσ39, ik39⟩ => ?_)) (fun _ _ _ h => h.elim)
  have kp : Keep [(4, 1), (5, 9), (6, 3), (6, 4), (6, 5), (7, 7)] [17, 24, 25, 31, 32, 33, 39, 43] σ0 σ39 := keep_c kp ik39 (by decide) (by decide)
  exact g_vret hF rfl d_X2_take_250 ⟨rfl, rfl, rfl, ⟨iσ39, kp⟩⟩
