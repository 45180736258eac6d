set_option maxHeartbeats 4000000 in
set_option maxRecDepth 100000 in
theorem kt_X2_pointed (a : Nat → Nat) (r : Nat → Nat) {a1 : Nat} {a2 : Int32} {σ : St} {Q : St → Prop} (ha1 : isOp a1) (w : wk_X2_pointed a1 a2 σ Q) (l : Launch) (D : va_G) (cy : Nat → ClassId) : Ct l D cy SC r (EC a gC) y_X2_pointed (Cond.code y_X2_pointed b_X2_pointed 3 none) 2 [.ref (r 7), .ref (r a1), .int a2] σ Z0 [] (QV Q) QT0 := by
  unfold wk_X2_pointed at w
  refine Ct_of (EC_ok a gC) (by decide) (Nat.le_of_ble_eq_true rfl) (by decide) (fun X hnn hF => ?_)
  show G SC r X σ Z0 [] [(0, .ref (r 7)), (1, .ref (r a1)), (2, .int a2)] [] 0
  refine g_aload_n hF d_X2_pointed_0 rfl 1 rfl ?_
  refine g_getN (v := .int (σ a1 1)) hF 1 (obC_op ha1) (by decide) nm_402 (fval_op ha1) d_X2_pointed_1 ?_
  refine g_iconst hF (v := 1) d_X2_pointed_4 (by decide) ?_
  obtain ⟨J13, h13, w1⟩ := w
  have b13 : ∀ (s13 : St), J13 s13 → G SC r X s13 Z0 [] [(0, .ref (r 7)), (1, .ref (r a1)), (2, .int a2)] [] 13 := by
    intro s13  w13_
    have w13_ := h13 s13  w13_
    refine g_aload_n hF d_X2_pointed_13 rfl 1 rfl ?_
    refine g_aload_n hF d_X2_pointed_14 rfl 1 rfl ?_
    refine g_getN (v := .int (s13 a1 1)) hF 1 (obC_op ha1) (by decide) nm_402 (fval_op ha1) d_X2_pointed_15 ?_
    refine g_iconst hF (v := 1) d_X2_pointed_18 (by decide) ?_
    refine g_isub hF d_X2_pointed_19 ?_
    refine g_iconst hF (v := 0) d_X2_pointed_20 (by decide) ?_
    refine g_callVN (As := [.int ((s13 a1 1) - (1 : Int32)), .int 0]) (rest := []) hF (fun l D cy => kt_X6_become a r ha1 w13_ l D cy) (Nat.le_of_ble_eq_true rfl) mV_X6_become nm_1100 (recv_ob (obC_op ha1)) rfl rfl (Nat.le_of_ble_eq_true rfl) d_X2_pointed_21 (qV (fun s21 w2 => ?_))
    refine g_aload_n hF d_X2_pointed_24 rfl 1 rfl ?_
    refine g_iconst hF (v := 3) d_X2_pointed_25 (by decide) ?_
    refine g_putN (v := 3) hF 0 (obC_op ha1) (by decide) nm_399 rfl rfl (rf_op ha1) d_X2_pointed_26 ?_
    obtain ⟨s2n, es2n⟩ : ∃ z, z = upC s21 a1 0 (3 : Int32) := ⟨_, rfl⟩
    rw [← es2n]
    have w4 := w2 s2n es2n
    refine g_aload_n hF d_X2_pointed_29 rfl 1 rfl ?_
    refine g_aload_n hF d_X2_pointed_30 rfl 0 rfl ?_
    refine g_iload_n hF d_X2_pointed_31 rfl 2 rfl ?_
    refine g_callV (As := [.int a2]) (rest := [.ref (r a1)]) hF (fun l D cy => kt_X2_lineOf a r w4 l D cy) (Nat.le_of_ble_eq_true rfl) mV_X2_lineOf m_1182 (recv_ob obC_7) rfl rfl (Nat.le_of_ble_eq_true rfl) d_X2_pointed_32 (qIr (fun v32 w5 => ?_)) (fun _ _ _ h => h.elim)
    refine g_putN (v := v32) hF 5 (obC_op ha1) (by decide) nm_410 rfl rfl (rf_op ha1) d_X2_pointed_35 ?_
    obtain ⟨s5n, es5n⟩ : ∃ z, z = upC s2n a1 5 v32 := ⟨_, rfl⟩
    rw [← es5n]
    have w7 := w5 s5n es5n
    exact g_vret hF rfl d_X2_pointed_38 ⟨rfl, rfl, rfl, w7⟩
  refine g_icmp_ge (yv := 1) hF 13 d_X2_pointed_5 (by decide) rfl (by decide) (fun c => ?_) (fun c => ?_)
  · have w8 := w1.1 c
    exact b13 σ w8
  · have w9 := w1.2 c
    refine g_aload_n hF d_X2_pointed_8 rfl 0 rfl ?_
    refine g_iload_n hF d_X2_pointed_9 rfl 2 rfl ?_
    refine g_callV (As := [.int a2]) (rest := []) hF (fun l D cy => kt_X2_refuse a r w9 l D cy) (Nat.le_of_ble_eq_true rfl) mV_X2_refuse m_1126 (recv_ob obC_7) rfl rfl (Nat.le_of_ble_eq_true rfl) d_X2_pointed_10 (qV (fun s10 w10 => ?_)) (fun _ _ _ h => h.elim)
    exact b13 s10 w10
set_option maxHeartbeats 4000000 in
set_option maxRecDepth 100000 in
theorem kt_X2_index (a : Nat → Nat) (r : Nat → Nat) {a1 : Int32} {σ : St} {Q : St → Prop} (w : wk_X2_index a1 σ Q) (l : Launch) (D : va_G) (cy : Nat → ClassId) : Ct l D cy SC r (EC a gC) y_X2_index (Cond.code y_X2_index b_X2_index 4 none) 3 [.ref (r 7), .int a1] σ Z0 [] (QV Q) QT0 := by
  unfold wk_X2_index at w
  refine Ct_of (EC_ok a gC) (by decide) (Nat.le_of_ble_eq_true rfl) (by decide) (fun X hnn hF => ?_)
  show G SC r X σ Z0 [] [(0, .ref (r 7)), (1, .int a1)] [] 0
  refine g_aload_n hF d_X2_index_0 rfl 0 rfl ?_
  refine g_callV (As := []) (rest := []) hF (fun l D cy => kt_X2_pop a r w l D cy) (Nat.le_of_ble_eq_true rfl) mV_X2_pop m_1156 (recv_ob obC_7) rfl rfl (Nat.le_of_ble_eq_true rfl) d_X2_index_1 (qA (fun u1 s1 hz1 w1 => ?_)) (fun _ _ _ h => h.elim)
  refine g_astore_n hF [(2, .ref (r u1)), (0, .ref (r 7)), (1, .int a1)] d_X2_index_4 rfl hnn (by decide) rfl ?_
  refine g_aload_n hF d_X2_index_5 rfl 1 rfl ?_
  refine g_callV (As := []) (rest := []) hF (fun l D cy => kt_X2_top a r w1 l D cy) (Nat.le_of_ble_eq_true rfl) mV_X2_top m_1160 (recv_ob obC_7) rfl rfl (Nat.le_of_ble_eq_true rfl) d_X2_index_6 (qAr (fun u6 hz6 w2 => ?_)) (fun _ _ _ h => h.elim)
  refine g_astore_n hF [(3, .ref (r u6)), (2, .ref (r u1)), (0, .ref (r 7)), (1, .int a1)] d_X2_index_9 rfl hnn (by decide) rfl ?_
  refine g_aload_n hF d_X2_index_10 rfl 1 rfl ?_
  refine g_getN (v := .int (s1 u1 1)) hF 1 (obC_op hz1) (by decide) nm_402 (fval_op hz1) d_X2_index_11 ?_
  obtain ⟨J22, h22, w3⟩ := w2
  have b22 : ∀ (s22 : St), J22 s22 → G SC r X s22 Z0 [] [(0, .ref (r 7)), (1, .int a1), (2, .ref (r u1)), (3, .ref (r u6))] [] 22 := by
    intro s22  w22_
    have w22_ := h22 s22  w22_
    refine g_aload_n hF d_X2_index_22 rfl 0 rfl ?_
    refine g_get (v := .ref (r 4)) hF 4 obC_7 (by decide) m_461 rfl d_X2_index_23 ?_
    refine g_bipush hF (v := 43) d_X2_index_26 (by decide) ?_
    refine g_iconst hF (v := 0) d_X2_index_28 (by decide) ?_
    refine g_iconst hF (v := 0) d_X2_index_29 (by decide) ?_
    refine g_iconst hF (v := 0) d_X2_index_30 (by decide) ?_
    refine g_callVN (As := [.int 43, .int 0, .int 0, .int 0]) (rest := []) hF (fun l D cy => kt_X0_emit a r w22_ l D cy) (Nat.le_of_ble_eq_true rfl) mV_X0_emit nm_1071 (recv_ob obC_4) rfl rfl (Nat.le_of_ble_eq_true rfl) d_X2_index_31 (qI (fun v31 s31 w4 => ?_))
    refine g_pop hF d_X2_index_34 rfl ?_
    refine g_aload_n hF d_X2_index_35 rfl 0 rfl ?_
    refine g_aload_n hF d_X2_index_36 rfl 3 rfl ?_
    refine g_iload_n hF d_X2_index_37 rfl 1 rfl ?_
    refine g_callV (As := [.ref (r u6), .int a1]) (rest := []) hF (fun l D cy => kt_X2_pointed a r hz6 w4 l D cy) (Nat.le_of_ble_eq_true rfl) mV_X2_pointed m_1250 (recv_ob obC_7) rfl rfl (Nat.le_of_ble_eq_true rfl) d_X2_index_38 (qV (fun s38 w5 => ?_)) (fun _ _ _ h => h.elim)
    refine g_aload_n hF d_X2_index_41 rfl 0 rfl ?_
    refine g_aload_n hF d_X2_index_42 rfl 3 rfl ?_
    refine g_iconst hF (v := 1) d_X2_index_43 (by decide) ?_
    refine g_aload_n hF d_X2_index_44 rfl 3 rfl ?_
    refine g_getN (v := .int (s38 u6 2)) hF 2 (obC_op hz6) (by decide) nm_404 (fval_op hz6) d_X2_index_45 ?_
    refine g_aload_n hF d_X2_index_48 rfl 2 rfl ?_
    refine g_getN (v := .int (s38 u1 2)) hF 2 (obC_op hz1) (by decide) nm_404 (fval_op hz1) d_X2_index_49 ?_
    refine g_mmax hF (Nat.le_of_ble_eq_true rfl) m_1130 m_1131 m_23 m_1132 (Nat.le_of_ble_eq_true rfl) d_X2_index_52 ?_
    refine g_iadd hF d_X2_index_55 ?_
    refine g_iload_n hF d_X2_index_56 rfl 1 rfl ?_
    refine g_callV (As := [.ref (r u6), .int ((1 : Int32) + (if (s38 u6 2) < (s38 u1 2) then (s38 u1 2) else (s38 u6 2))), .int a1]) (rest := []) hF (fun l D cy => kt_X2_raise a r hz6 w5 l D cy) (Nat.le_of_ble_eq_true rfl) mV_X2_raise m_1186 (recv_ob obC_7) rfl rfl (Nat.le_of_ble_eq_true rfl) d_X2_index_57 (qV (fun s57 w6 => ?_)) (fun _ _ _ h => h.elim)
    exact g_vret hF rfl d_X2_index_60 ⟨rfl, rfl, rfl, w6⟩
  refine g_if_eq hF 22 d_X2_index_14 (by decide) rfl (fun c => ?_) (fun c => ?_)
  · have w7 := w3.1 c
    exact g_sub (L' := [(0, .ref (r 7)), (1, .int a1), (2, .ref (r u1)), (3, .ref (r u6))]) [2, 3, 1, 0] rfl (b22 s1 w7)
  · have w8 := w3.2 c
    refine g_aload_n hF d_X2_index_17 rfl 2 rfl ?_
    refine g_iload_n hF d_X2_index_18 rfl 3 rfl ?_
    refine g_callV (As := [.int a1]) (rest := []) hF (fun l D cy => kt_X2_refuse a r w8 l D cy) (Nat.le_of_ble_eq_true rfl) mV_X2_refuse m_1126 (recv_ob obC_7) rfl rfl (Nat.le_of_ble_eq_true rfl) d_X2_index_19 (qV (fun s19 w9 => ?_)) (fun _ _ _ h => h.elim)
    exact g_sub (L' := [(0, .ref (r 7)), (1, .int a1), (2, .ref (r u1)), (3, .ref (r u6))]) [2, 3, 1, 0] rfl (b22 s19 w9)
set_option maxHeartbeats 4000000 in
set_option maxRecDepth 100000 in
theorem kt_X2_step (a : Nat → Nat) (r : Nat → Nat) {a1 : Nat} {a2 : Int32} {a3 : Int32} {σ : St} {Q : St → Prop} (ha1 : isOp a1) (ha3 : a3 = 0 ∨ a3 = 1) (w : wk_X2_step a1 a2 a3 σ Q) (l : Launch) (D : va_G) (cy : Nat → ClassId) : Ct l D cy SC r (EC a gC) y_X2_step (Cond.code y_X2_step b_X2_step 6 none) 2 [.ref (r 7), .ref (r a1), .int a2, .int a3] σ Z0 [] (QV Q) QT0 := by
  unfold wk_X2_step at w
  refine Ct_of (EC_ok a gC) (by decide) (Nat.le_of_ble_eq_true rfl) (by decide) (fun X hnn hF => ?_)
  show G SC r X σ Z0 [] [(0, .ref (r 7)), (1, .ref (r a1)), (2, .int a2), (3, .int a3)] [] 0
  refine g_aload_n hF d_X2_step_0 rfl 1 rfl ?_
  refine g_callVN (As := []) (rest := []) hF (fun l D cy => kt_X6_isPlace a r ha1 w l D cy) (Nat.le_of_ble_eq_true rfl) mV_X6_isPlace nm_1168 (recv_ob (obC_op ha1)) rfl rfl (Nat.le_of_ble_eq_true rfl) d_X2_step_1 (qZr (fun v1 hz1 w1 => ?_))
  obtain ⟨J12, h12, w2⟩ := w1
  have b12 : ∀ (s12 : St), J12 s12 → G SC r X s12 Z0 [] [(0, .ref (r 7)), (1, .ref (r a1)), (2, .int a2), (3, .int a3)] [] 12 := by
    intro s12  w12_
    have w12_ := h12 s12  w12_
    refine g_aload_n hF d_X2_step_12 rfl 0 rfl ?_
    refine g_iload_n hF d_X2_step_13 rfl 2 rfl ?_
    refine g_callV (As := [.int a2]) (rest := []) hF (fun l D cy => kt_X2_kindOf a r w12_ l D cy) (Nat.le_of_ble_eq_true rfl) mV_X2_kindOf m_1194 (recv_ob obC_7) rfl rfl (Nat.le_of_ble_eq_true rfl) d_X2_step_14 (qIr (fun v14 w3 => ?_)) (fun _ _ _ h => h.elim)
    refine g_bipush hF (v := 61) d_X2_step_17 (by decide) ?_
    obtain ⟨J27, h27, w4⟩ := w3
    have b27 : ∀ (y0_27 : Int32), J27 y0_27 → G SC r X s12 Z0 [] [(0, .ref (r 7)), (1, .ref (r a1)), (2, .int a2), (3, .int a3)] [.int y0_27] 27 := by
      intro y0_27  w27_
      have w27_ := h27 y0_27  w27_
      refine g_istore hF [(4, .int y0_27), (0, .ref (r 7)), (1, .ref (r a1)), (2, .int a2), (3, .int a3)] d_X2_step_27 hnn (by decide) rfl ?_
      refine g_iload_n hF d_X2_step_29 rfl 4 rfl ?_
      obtain ⟨J39, h39, w5⟩ := w27_
      have b39 : ∀ (y0_39 : Int32), J39 y0_39 → G SC r X s12 Z0 [] [(0, .ref (r 7)), (1, .ref (r a1)), (2, .int a2), (4, .int y0_27)] [.int y0_39] 39 := by
        intro y0_39  w39_
        have w39_ := h39 y0_39  w39_
        refine g_istore hF [(5, .int y0_39), (0, .ref (r 7)), (1, .ref (r a1)), (2, .int a2), (4, .int y0_27)] d_X2_step_39 hnn (by decide) rfl ?_
        refine g_aload_n hF d_X2_step_41 rfl 2 rfl ?_
        refine g_getN (v := .int (s12 a1 0)) hF 0 (obC_op ha1) (by decide) nm_399 (fval_op ha1) d_X2_step_42 ?_
        refine g_iconst hF (v := 3) d_X2_step_45 (by decide) ?_
        obtain ⟨J102, h102, w6⟩ := w39_
        have b102 : ∀ (s102 : St), J102 s102 → G SC r X s102 Z0 [] [(0, .ref (r 7)), (1, .ref (r a1)), (2, .int a2)] [] 102 := by
          intro s102  w102_
          have w102_ := h102 s102  w102_
          refine g_aload_n hF d_X2_step_102 rfl 1 rfl ?_
          refine g_aload_n hF d_X2_step_103 rfl 1 rfl ?_
          refine g_getN (v := .int (s102 a1 1)) hF 1 (obC_op ha1) (by decide) nm_402 (fval_op ha1) d_X2_step_104 ?_
          refine g_iconst hF (v := 0) d_X2_step_107 (by decide) ?_
          refine g_callVN (As := [.int (s102 a1 1), .int 0]) (rest := []) hF (fun l D cy => kt_X6_become a r ha1 w102_ l D cy) (Nat.le_of_ble_eq_true rfl) mV_X6_become nm_1100 (recv_ob (obC_op ha1)) rfl rfl (Nat.le_of_ble_eq_true rfl) d_X2_step_108 (qV (fun s108 w7 => ?_))
          refine g_aload_n hF d_X2_step_111 rfl 0 rfl ?_
          refine g_aload_n hF d_X2_step_112 rfl 1 rfl ?_
          refine g_iconst hF (v := 1) d_X2_step_113 (by decide) ?_
          refine g_aload_n hF d_X2_step_114 rfl 1 rfl ?_
          refine g_getN (v := .int (s108 a1 2)) hF 2 (obC_op ha1) (by decide) nm_404 (fval_op ha1) d_X2_step_115 ?_
          refine g_iadd hF d_X2_step_118 ?_
          refine g_iload_n hF d_X2_step_119 rfl 2 rfl ?_
          refine g_callV (As := [.ref (r a1), .int ((1 : Int32) + (s108 a1 2)), .int a2]) (rest := []) hF (fun l D cy => kt_X2_raise a r ha1 w7 l D cy) (Nat.le_of_ble_eq_true rfl) mV_X2_raise m_1186 (recv_ob obC_7) rfl rfl (Nat.le_of_ble_eq_true rfl) d_X2_step_120 (qV (fun s120 w8 => ?_)) (fun _ _ _ h => h.elim)
          exact g_vret hF rfl d_X2_step_123 ⟨rfl, rfl, rfl, w8⟩
        refine g_icmp_ne (yv := 3) hF 71 d_X2_step_46 (by decide) rfl (by decide) (fun c => ?_) (fun c => ?_)
        · have w9 := w6.1 c
          refine g_aload_n hF d_X2_step_71 rfl 1 rfl ?_
          refine g_get (v := .ref (r 4)) hF 4 obC_7 (by decide) m_461 rfl d_X2_step_72 ?_
          refine g_aload_n hF d_X2_step_75 rfl 2 rfl ?_
          refine g_getN (v := .int (s12 a1 0)) hF 0 (obC_op ha1) (by decide) nm_399 (fval_op ha1) d_X2_step_76 ?_
          refine g_iconst hF (v := 1) d_X2_step_79 (by decide) ?_
          obtain ⟨J90, h90, w10⟩ := w9
          have b90 : ∀ (y1_90 : Int32), J90 y1_90 → G SC r X s12 Z0 [] [(0, .ref (r 7)), (1, .ref (r a1)), (2, .int a2), (4, .int y0_27), (5, .int y0_39)] [.int y1_90, .ref (r 4)] 90 := by
            intro y1_90  w90_
            have w90_ := h90 y1_90  w90_
            refine g_aload_n hF d_X2_step_90 rfl 1 rfl ?_
            refine g_getN (v := .int (s12 a1 4)) hF 4 (obC_op ha1) (by decide) nm_408 (fval_op ha1) d_X2_step_91 ?_
            refine g_iload hF d_X2_step_94 3 rfl ?_
            refine g_iload hF d_X2_step_96 4 rfl ?_
            refine g_callVN (As := [.int y1_90, .int (s12 a1 4), .int y0_27, .int y0_39]) (rest := []) hF (fun l D cy => kt_X0_emit a r w90_ l D cy) (Nat.le_of_ble_eq_true rfl) mV_X0_emit nm_1071 (recv_ob obC_4) rfl rfl (Nat.le_of_ble_eq_true rfl) d_X2_step_98 (qI (fun v98 s98 w11 => ?_))
            refine g_pop hF d_X2_step_101 rfl ?_
            exact g_sub (L' := [(0, .ref (r 7)), (1, .ref (r a1)), (2, .int a2)]) [0, 1, 2] rfl (b102 s98 w11)
          refine g_icmp_ne (yv := 1) hF 88 d_X2_step_80 (by decide) rfl (by decide) (fun c => ?_) (fun c => ?_)
          · have w12 := w10.1 c
            refine g_bipush hF (v := 7) d_X2_step_88 (by decide) ?_
            exact g_sub (L' := [(0, .ref (r 7)), (1, .ref (r a1)), (2, .int a2), (4, .int y0_27), (5, .int y0_39)]) [1, 2, 3, 4, 0] rfl (b90 (7 : Int32) w12)
          · have w13 := w10.2 c
            refine g_bipush hF (v := 10) d_X2_step_83 (by decide) ?_
            refine g_goto hF 90 d_X2_step_85 (by decide) ?_
            exact g_sub (L' := [(0, .ref (r 7)), (1, .ref (r a1)), (2, .int a2), (4, .int y0_27), (5, .int y0_39)]) [1, 2, 3, 4, 0] rfl (b90 (10 : Int32) w13)
        · have w14 := w6.2 c
          refine g_aload_n hF d_X2_step_49 rfl 1 rfl ?_
          refine g_get (v := .ref (r 4)) hF 4 obC_7 (by decide) m_461 rfl d_X2_step_50 ?_
          refine g_bipush hF (v := 20) d_X2_step_53 (by decide) ?_
          refine g_aload_n hF d_X2_step_55 rfl 1 rfl ?_
          refine g_iload_n hF d_X2_step_56 rfl 3 rfl ?_
          refine g_callV (As := [.int a2]) (rest := [.int 20, .ref (r 4)]) hF (fun l D cy => kt_X2_lineOf a r w14 l D cy) (Nat.le_of_ble_eq_true rfl) mV_X2_lineOf m_1182 (recv_ob obC_7) rfl rfl (Nat.le_of_ble_eq_true rfl) d_X2_step_57 (qIr (fun v57 w15 => ?_)) (fun _ _ _ h => h.elim)
          refine g_iload hF d_X2_step_60 4 rfl ?_
          refine g_iload hF d_X2_step_62 0 rfl ?_
          refine g_callVN (As := [.int 20, .int v57, .int y0_27, .int y0_39]) (rest := []) hF (fun l D cy => kt_X0_emit a r w15 l D cy) (Nat.le_of_ble_eq_true rfl) mV_X0_emit nm_1071 (recv_ob obC_4) rfl rfl (Nat.le_of_ble_eq_true rfl) d_X2_step_64 (qI (fun v64 s64 w16 => ?_))
          refine g_pop hF d_X2_step_67 rfl ?_
          refine g_goto hF 102 d_X2_step_68 (by decide) ?_
          exact g_sub (L' := [(0, .ref (r 7)), (1, .ref (r a1)), (2, .int a2)]) [1, 2, 3] rfl (b102 s64 w16)
      refine g_if_eq hF 38 d_X2_step_30 (by decide) rfl (fun c => ?_) (fun c => ?_)
      · have w17 := w5.1 c
        refine g_iconst hF (v := 0) d_X2_step_38 (by decide) ?_
        exact g_sub (L' := [(0, .ref (r 7)), (1, .ref (r a1)), (2, .int a2), (4, .int y0_27)]) [1, 2, 3, 0] rfl (b39 (0 : Int32) w17)
      · have w18 := w5.2 c
        refine g_iload hF d_X2_step_33 0 rfl ?_
        refine g_goto hF 39 d_X2_step_35 (by decide) ?_
        exact g_sub (L' := [(0, .ref (r 7)), (1, .ref (r a1)), (2, .int a2), (4, .int y0_27)]) [1, 2, 3, 0] rfl (b39 y0_27 w18)
    refine g_icmp_ne (yv := 61) hF 26 d_X2_step_19 (by decide) rfl (by decide) (fun c => ?_) (fun c => ?_)
    · have w19 := w4.1 c
      refine g_iconst hF (v := (-1)) d_X2_step_26 (by decide) ?_
      exact b27 ((-1) : Int32) w19
    · have w20 := w4.2 c
      refine g_iconst hF (v := 1) d_X2_step_22 (by decide) ?_
      refine g_goto hF 27 d_X2_step_23 (by decide) ?_
      exact b27 (1 : Int32) w20
  refine g_if_ne hF 12 d_X2_step_4 (by decide) rfl (fun c => ?_) (fun c => ?_)
  · have w21 := w2.1 c
    exact b12 σ w21
  · have w22 := w2.2 c
    refine g_aload_n hF d_X2_step_7 rfl 0 rfl ?_
    refine g_iload_n hF d_X2_step_8 rfl 2 rfl ?_
    refine g_callV (As := [.int a2]) (rest := []) hF (fun l D cy => kt_X2_refuse a r w22 l D cy) (Nat.le_of_ble_eq_true rfl) mV_X2_refuse m_1126 (recv_ob obC_7) rfl rfl (Nat.le_of_ble_eq_true rfl) d_X2_step_9 (qV (fun s9 w23 => ?_)) (fun _ _ _ h => h.elim)
    exact b12 s9 w23
set_option maxHeartbeats 4000000 in
set_option maxRecDepth 100000 in
theorem kt_X5_inverted (a : Nat → Nat) (r : Nat → Nat) {a0 : Int32} {a1 : Int32} {σ : St} {Q : Int32 → Prop} (w : wk_X5_inverted a0 a1 σ Q) (l : Launch) (D : va_G) (cy : Nat → ClassId) : Ct l D cy SC r (EC a gC) y_X5_inverted (Cond.code y_X5_inverted b_X5_inverted 2 (some .int)) 0 [.int a0, .int a1] σ Z0 [] (QI (fun x σ9 => σ9 = σ ∧ Q x)) QT0 := by
  unfold wk_X5_inverted at w
  refine Ct_of (EC_ok a gC) (by decide) (Nat.le_of_ble_eq_true rfl) (by decide) (fun X hnn hF => ?_)
  show G SC r X σ Z0 [] [(0, .int a0), (1, .int a1)] [] 0
  refine g_iload_n hF d_X5_inverted_0 rfl 0 rfl ?_
  refine (Decidable.em (a0.toInt = 22)).elim (fun q1_0 => ?_) (fun q1_0 => ?_)
  · have w1 := w.1 q1_0
    refine g_tableIn (off := 27) hF 28 d_X5_inverted_1 q1_0 (by decide) (by decide) (by decide +kernel) (by decide) ?_
    refine g_iload_n hF d_X5_inverted_28 rfl 1 rfl ?_
    refine g_ineg hF d_X5_inverted_29 ?_
    exact g_iret hF rfl d_X5_inverted_30 ⟨rfl, rfl, (-a1), rfl, ⟨rfl, w1⟩⟩
  have w2 := w.2 q1_0
  refine (Decidable.em (a0.toInt = 23)).elim (fun q1_1 => ?_) (fun q1_1 => ?_)
  · have w3 := w2.1 q1_1
    refine g_tableIn (off := 30) hF 31 d_X5_inverted_1 q1_1 (by decide) (by decide) (by decide +kernel) (by decide) ?_
    refine g_iload_n hF d_X5_inverted_31 rfl 1 rfl ?_
    refine g_iconst hF (v := (-1)) d_X5_inverted_32 (by decide) ?_
    refine g_ixor hF d_X5_inverted_33 ?_
    exact g_iret hF rfl d_X5_inverted_34 ⟨rfl, rfl, (a1 ^^^ ((-1) : Int32)), rfl, ⟨rfl, w3⟩⟩
  have w4 := w2.2 q1_1
  refine (Decidable.em (a0.toInt = 24)).elim (fun q1_2 => ?_) (fun q1_2 => ?_)
  · have w5 := w4.1 q1_2
    refine g_tableIn (off := 34) hF 35 d_X5_inverted_1 q1_2 (by decide) (by decide) (by decide +kernel) (by decide) ?_
    refine g_iload_n hF d_X5_inverted_35 rfl 1 rfl ?_
    refine g_if_ne hF 43 d_X5_inverted_36 (by decide) rfl (fun c => ?_) (fun c => ?_)
    · have w6 := w5.1 c
      refine g_iconst hF (v := 0) d_X5_inverted_43 (by decide) ?_
      exact g_iret hF rfl d_X5_inverted_44 ⟨rfl, rfl, (0 : Int32), rfl, ⟨rfl, w6⟩⟩
    · have w7 := w5.2 c
      refine g_iconst hF (v := 1) d_X5_inverted_39 (by decide) ?_
      refine g_goto hF 44 d_X5_inverted_40 (by decide) ?_
      exact g_iret hF rfl d_X5_inverted_44 ⟨rfl, rfl, (1 : Int32), rfl, ⟨rfl, w7⟩⟩
  have w8 := w4.2 q1_2
  refine g_tableOut hF 45 d_X5_inverted_1 rfl (tbo_22_24 q1_0 q1_1 q1_2) (by decide) ?_
  refine g_iload_n hF d_X5_inverted_45 rfl 1 rfl ?_
  refine g_if_eq hF 53 d_X5_inverted_46 (by decide) rfl (fun c => ?_) (fun c => ?_)
  · have w9 := w8.1 c
    refine g_iconst hF (v := 0) d_X5_inverted_53 (by decide) ?_
    exact g_iret hF rfl d_X5_inverted_54 ⟨rfl, rfl, (0 : Int32), rfl, ⟨rfl, w9⟩⟩
  · have w10 := w8.2 c
    refine g_iconst hF (v := 1) d_X5_inverted_49 (by decide) ?_
    refine g_goto hF 54 d_X5_inverted_50 (by decide) ?_
    exact g_iret hF rfl d_X5_inverted_54 ⟨rfl, rfl, (1 : Int32), rfl, ⟨rfl, w10⟩⟩
set_option maxHeartbeats 4000000 in
set_option maxRecDepth 100000 in
theorem kt_X2_invert (a : Nat → Nat) (r : Nat → Nat) {a1 : Nat} {a2 : Int32} {a3 : Int32} {σ : St} {Q : St → Prop} (ha1 : isOp a1) (w : wk_X2_invert a1 a2 a3 σ Q) (l : Launch) (D : va_G) (cy : Nat → ClassId) : Ct l D cy SC r (EC a gC) y_X2_invert (Cond.code y_X2_invert b_X2_invert 5 none) 3 [.ref (r 7), .ref (r a1), .int a2, .int a3] σ Z0 [] (QV Q) QT0 := by
  unfold wk_X2_invert at w
  refine Ct_of (EC_ok a gC) (by decide) (Nat.le_of_ble_eq_true rfl) (by decide) (fun X hnn hF => ?_)
  show G SC r X σ Z0 [] [(0, .ref (r 7)), (1, .ref (r a1)), (2, .int a2), (3, .int a3)] [] 0
  refine g_iload_n hF d_X2_invert_0 rfl 2 rfl ?_
  refine g_bipush hF (v := 59) d_X2_invert_1 (by decide) ?_
  obtain ⟨J29, h29, w1⟩ := w
  have b29 : ∀ (s29 : St), J29 s29 → G SC r X s29 Z0 [] [(0, .ref (r 7)), (1, .ref (r a1)), (2, .int a2)] [] 29 := by
    intro s29  w29_
    have w29_ := h29 s29  w29_
    refine g_iload_n hF d_X2_invert_29 rfl 2 rfl ?_
    refine g_bipush hF (v := 59) d_X2_invert_30 (by decide) ?_
    obtain ⟨J53, h53, w2⟩ := w29_
    have b53 : ∀ (y0_53 : Int32), J53 y0_53 → G SC r X s29 Z0 [] [(0, .ref (r 7)), (1, .ref (r a1))] [.int y0_53] 53 := by
      intro y0_53  w53_
      have w53_ := h53 y0_53  w53_
      refine g_istore hF [(4, .int y0_53), (0, .ref (r 7)), (1, .ref (r a1))] d_X2_invert_53 hnn (by decide) rfl ?_
      refine g_aload_n hF d_X2_invert_55 rfl 1 rfl ?_
      refine g_get (v := .ref (r 4)) hF 4 obC_7 (by decide) m_461 rfl d_X2_invert_56 ?_
      refine g_iload hF d_X2_invert_59 0 rfl ?_
      refine g_iconst hF (v := 0) d_X2_invert_61 (by decide) ?_
      refine g_iconst hF (v := 0) d_X2_invert_62 (by decide) ?_
      refine g_iconst hF (v := 0) d_X2_invert_63 (by decide) ?_
      refine g_callVN (As := [.int y0_53, .int 0, .int 0, .int 0]) (rest := []) hF (fun l D cy => kt_X0_emit a r w53_ l D cy) (Nat.le_of_ble_eq_true rfl) mV_X0_emit nm_1071 (recv_ob obC_4) rfl rfl (Nat.le_of_ble_eq_true rfl) d_X2_invert_64 (qI (fun v64 s64 w3 => ?_))
      refine g_pop hF d_X2_invert_67 rfl ?_
      refine g_aload_n hF d_X2_invert_68 rfl 2 rfl ?_
      refine g_iload hF d_X2_invert_69 0 rfl ?_
      refine g_aload_n hF d_X2_invert_71 rfl 2 rfl ?_
      refine g_getN (v := .int (s64 a1 8)) hF 8 (obC_op ha1) (by decide) nm_418 (fval_op ha1) d_X2_invert_72 ?_
      refine g_callSN (As := [.int y0_53, .int (s64 a1 8)]) (rest := [.ref (r a1)]) hF (fun l D cy => kt_X5_inverted a r w3 l D cy) (Nat.le_of_ble_eq_true rfl) mS_X5_inverted nm_1266 rfl rfl (Nat.le_of_ble_eq_true rfl) d_X2_invert_75 (qIr (fun v75 w4 => ?_))
      refine g_putN (v := v75) hF 8 (obC_op ha1) (by decide) nm_418 rfl rfl (rf_op ha1) d_X2_invert_78 ?_
      obtain ⟨s4n, es4n⟩ : ∃ z, z = upC s64 a1 8 v75 := ⟨_, rfl⟩
      rw [← es4n]
      have w6 := w4 s4n es4n
      refine g_aload_n hF d_X2_invert_81 rfl 2 rfl ?_
      refine g_iconst hF (v := 0) d_X2_invert_82 (by decide) ?_
      refine g_aload_n hF d_X2_invert_83 rfl 2 rfl ?_
      refine g_callVN (As := []) (rest := [.int 0, .ref (r a1)]) hF (fun l D cy => kt_X6_isConstant a r ha1 w6 l D cy) (Nat.le_of_ble_eq_true rfl) mV_X6_isConstant nm_1222 (recv_ob (obC_op ha1)) rfl rfl (Nat.le_of_ble_eq_true rfl) d_X2_invert_84 (qZr (fun v84 hz84 w7 => ?_))
      obtain ⟨J95, h95, w8⟩ := w7
      have b95 : ∀ (y2_95 : Int32), y2_95 = 0 ∨ y2_95 = 1 → J95 y2_95 → G SC r X s4n Z0 [] [(0, .ref (r 7)), (1, .ref (r a1))] [.int y2_95, .int 0, .ref (r a1)] 95 := by
        intro y2_95 hy2_95 w95_
        have w95_ := h95 y2_95 hy2_95 w95_
        refine g_callVN (As := [.int 0, .int y2_95]) (rest := []) hF (fun l D cy => kt_X6_become a r ha1 w95_ l D cy) (Nat.le_of_ble_eq_true rfl) mV_X6_become nm_1100 (recv_ob (obC_op ha1)) rfl rfl (Nat.le_of_ble_eq_true rfl) d_X2_invert_95 (qV (fun s95 w9 => ?_))
        refine g_aload_n hF d_X2_invert_98 rfl 0 rfl ?_
        refine g_aload_n hF d_X2_invert_99 rfl 1 rfl ?_
        refine g_callV (As := [.ref (r a1)]) (rest := []) hF (fun l D cy => kt_X2_fold a r ha1 w9 l D cy) (Nat.le_of_ble_eq_true rfl) mV_X2_fold m_1233 (recv_ob obC_7) rfl rfl (Nat.le_of_ble_eq_true rfl) d_X2_invert_100 (qV (fun s100 w10 => ?_)) (fun _ _ _ h => h.elim)
        exact g_vret hF rfl d_X2_invert_103 ⟨rfl, rfl, rfl, w10⟩
      refine g_if_eq hF 94 d_X2_invert_87 (by decide) rfl (fun c => ?_) (fun c => ?_)
      · have w11 := w8.1 c
        refine g_iconst hF (v := 0) d_X2_invert_94 (by decide) ?_
        exact g_sub (L' := [(0, .ref (r 7)), (1, .ref (r a1))]) [1, 2] rfl (b95 (0 : Int32) (Or.inl rfl) w11)
      · have w12 := w8.2 c
        refine g_iconst hF (v := 1) d_X2_invert_90 (by decide) ?_
        refine g_goto hF 95 d_X2_invert_91 (by decide) ?_
        exact g_sub (L' := [(0, .ref (r 7)), (1, .ref (r a1))]) [1, 2] rfl (b95 (1 : Int32) (Or.inr rfl) w12)
    refine g_icmp_ne (yv := 59) hF 40 d_X2_invert_32 (by decide) rfl (by decide) (fun c => ?_) (fun c => ?_)
    · have w13 := w2.1 c
      refine g_iload_n hF d_X2_invert_40 rfl 2 rfl ?_
      refine g_bipush hF (v := 60) d_X2_invert_41 (by decide) ?_
      refine g_icmp_ne (yv := 60) hF 51 d_X2_invert_43 (by decide) rfl (by decide) (fun c => ?_) (fun c => ?_)
      · have w14 := w13.1 c
        refine g_bipush hF (v := 22) d_X2_invert_51 (by decide) ?_
        exact g_sub (L' := [(0, .ref (r 7)), (1, .ref (r a1))]) [0, 1] rfl (b53 (22 : Int32) w14)
      · have w15 := w13.2 c
        refine g_bipush hF (v := 23) d_X2_invert_46 (by decide) ?_
        refine g_goto hF 53 d_X2_invert_48 (by decide) ?_
        exact g_sub (L' := [(0, .ref (r 7)), (1, .ref (r a1))]) [0, 1] rfl (b53 (23 : Int32) w15)
    · have w16 := w2.2 c
      refine g_bipush hF (v := 24) d_X2_invert_35 (by decide) ?_
      refine g_goto hF 53 d_X2_invert_37 (by decide) ?_
      exact g_sub (L' := [(0, .ref (r 7)), (1, .ref (r a1))]) [0, 1] rfl (b53 (24 : Int32) w16)
  obtain ⟨J24, h24, w17⟩ := w1
  have b24 : J24  → G SC r X σ Z0 [] [(0, .ref (r 7)), (1, .ref (r a1)), (2, .int a2), (3, .int a3)] [] 24 := by
    intro   w24_
    have w24_ := h24   w24_
    refine g_aload_n hF d_X2_invert_24 rfl 0 rfl ?_
    refine g_iload_n hF d_X2_invert_25 rfl 3 rfl ?_
    refine g_callV (As := [.int a3]) (rest := []) hF (fun l D cy => kt_X2_refuse a r w24_ l D cy) (Nat.le_of_ble_eq_true rfl) mV_X2_refuse m_1126 (recv_ob obC_7) rfl rfl (Nat.le_of_ble_eq_true rfl) d_X2_invert_26 (qV (fun s26 w18 => ?_)) (fun _ _ _ h => h.elim)
    exact g_sub (L' := [(0, .ref (r 7)), (1, .ref (r a1)), (2, .int a2)]) [0, 1, 2] rfl (b29 s26 w18)
  refine g_icmp_ne (yv := 59) hF 17 d_X2_invert_3 (by decide) rfl (by decide) (fun c => ?_) (fun c => ?_)
  · have w19 := w17.1 c
    refine g_aload_n hF d_X2_invert_17 rfl 1 rfl ?_
    refine g_getN (v := .int (σ a1 1)) hF 1 (obC_op ha1) (by decide) nm_402 (fval_op ha1) d_X2_invert_18 ?_
    refine g_if_eq hF 29 d_X2_invert_21 (by decide) rfl (fun c => ?_) (fun c => ?_)
    · have w20 := w19.1 c
      exact g_sub (L' := [(0, .ref (r 7)), (1, .ref (r a1)), (2, .int a2)]) [0, 1, 2] rfl (b29 σ w20)
    · have w21 := w19.2 c
      exact b24  w21
  · have w22 := w17.2 c
    refine g_aload_n hF d_X2_invert_6 rfl 1 rfl ?_
    refine g_getN (v := .int (σ a1 1)) hF 1 (obC_op ha1) (by decide) nm_402 (fval_op ha1) d_X2_invert_7 ?_
    refine g_iconst hF (v := (-1)) d_X2_invert_10 (by decide) ?_
    refine g_icmp_ne (yv := -1) hF 29 d_X2_invert_11 (by decide) rfl (by decide) (fun c => ?_) (fun c => ?_)
    · have w23 := w22.1 c
      exact g_sub (L' := [(0, .ref (r 7)), (1, .ref (r a1)), (2, .int a2)]) [0, 1, 2] rfl (b29 σ w23)
    · have w24 := w22.2 c
      refine g_goto hF 24 d_X2_invert_14 (by decide) ?_
      exact b24  w24
set_option maxHeartbeats 4000000 in
set_option maxRecDepth 100000 in
theorem kt_X2_unary (a : Nat → Nat) (r : Nat → Nat) {a1 : Int32} {σ : St} {Q : St → Prop} (w : wk_X2_unary a1 σ Q) (l : Launch) (D : va_G) (cy : Nat → ClassId) : Ct l D cy SC r (EC a gC) y_X2_unary (Cond.code y_X2_unary b_X2_unary 4 none) 4 [.ref (r 7), .int a1] σ Z0 [] (QV Q) QT0 := by
  unfold wk_X2_unary at w
  refine Ct_of (EC_ok a gC) (by decide) (Nat.le_of_ble_eq_true rfl) (by decide) (fun X hnn hF => ?_)
  show G SC r X σ Z0 [] [(0, .ref (r 7)), (1, .int a1)] [] 0
  refine g_aload_n hF d_X2_unary_0 rfl 0 rfl ?_
  refine g_iload_n hF d_X2_unary_1 rfl 1 rfl ?_
  refine g_callV (As := [.int a1]) (rest := []) hF (fun l D cy => kt_X2_kindOf a r w l D cy) (Nat.le_of_ble_eq_true rfl) mV_X2_kindOf m_1194 (recv_ob obC_7) rfl rfl (Nat.le_of_ble_eq_true rfl) d_X2_unary_2 (qIr (fun v2 w1 => ?_)) (fun _ _ _ h => h.elim)
  refine g_istore_n hF [(2, .int v2), (0, .ref (r 7)), (1, .int a1)] d_X2_unary_5 rfl hnn (by decide) rfl ?_
  refine g_aload_n hF d_X2_unary_6 rfl 1 rfl ?_
  refine g_callV (As := []) (rest := []) hF (fun l D cy => kt_X2_top a r w1 l D cy) (Nat.le_of_ble_eq_true rfl) mV_X2_top m_1160 (recv_ob obC_7) rfl rfl (Nat.le_of_ble_eq_true rfl) d_X2_unary_7 (qAr (fun u7 hz7 w2 => ?_)) (fun _ _ _ h => h.elim)
  refine g_astore_n hF [(3, .ref (r u7)), (2, .int v2), (0, .ref (r 7)), (1, .int a1)] d_X2_unary_10 rfl hnn (by decide) rfl ?_
  refine g_iload_n hF d_X2_unary_11 rfl 1 rfl ?_
  refine g_bipush hF (v := 61) d_X2_unary_12 (by decide) ?_
  obtain ⟨J23, h23, w3⟩ := w2
  have b23 : J23  → G SC r X σ Z0 [] [(0, .ref (r 7)), (1, .int a1), (3, .ref (r u7))] [] 23 := by
    intro   w23_
    have w23_ := h23   w23_
    refine g_aload_n hF d_X2_unary_23 rfl 0 rfl ?_
    refine g_aload_n hF d_X2_unary_24 rfl 2 rfl ?_
    refine g_iload_n hF d_X2_unary_25 rfl 1 rfl ?_
    refine g_iconst hF (v := 0) d_X2_unary_26 (by decide) ?_
    refine g_callV (As := [.ref (r u7), .int a1, .int 0]) (rest := []) hF (fun l D cy => kt_X2_step a r hz7 (Or.inl rfl) w23_ l D cy) (Nat.le_of_ble_eq_true rfl) mV_X2_step m_1258 (recv_ob obC_7) rfl rfl (Nat.le_of_ble_eq_true rfl) d_X2_unary_27 (qV (fun s27 w4 => ?_)) (fun _ _ _ h => h.elim)
    exact g_vret hF rfl d_X2_unary_30 ⟨rfl, rfl, rfl, w4⟩
  refine g_icmp_eq (yv := 61) hF 23 d_X2_unary_14 (by decide) rfl (by decide) (fun c => ?_) (fun c => ?_)
  · have w5 := w3.1 c
    exact g_sub (L' := [(0, .ref (r 7)), (1, .int a1), (3, .ref (r u7))]) [2, 3, 0] rfl (b23  w5)
  · have w6 := w3.2 c
    refine g_iload_n hF d_X2_unary_17 rfl 1 rfl ?_
    refine g_bipush hF (v := 62) d_X2_unary_18 (by decide) ?_
    refine g_icmp_ne (yv := 62) hF 31 d_X2_unary_20 (by decide) rfl (by decide) (fun c => ?_) (fun c => ?_)
    · have w7 := w6.1 c
      refine g_iload_n hF d_X2_unary_31 rfl 1 rfl ?_
      refine g_bipush hF (v := 48) d_X2_unary_32 (by decide) ?_
      obtain ⟨J96, h96, w8⟩ := w7
      have b96 : ∀ (s96 : St), J96 s96 → G SC r X s96 Z0 [] [(0, .ref (r 7)), (1, .int a1), (3, .ref (r u7))] [] 96 := by
        intro s96  w96_
        have w96_ := h96 s96  w96_
        refine g_aload_n hF d_X2_unary_96 rfl 0 rfl ?_
        refine g_aload_n hF d_X2_unary_97 rfl 2 rfl ?_
        refine g_iconst hF (v := 1) d_X2_unary_98 (by decide) ?_
        refine g_aload_n hF d_X2_unary_99 rfl 2 rfl ?_
        refine g_getN (v := .int (s96 u7 2)) hF 2 (obC_op hz7) (by decide) nm_404 (fval_op hz7) d_X2_unary_100 ?_
        refine g_iadd hF d_X2_unary_103 ?_
        refine g_iload_n hF d_X2_unary_104 rfl 1 rfl ?_
        refine g_callV (As := [.ref (r u7), .int ((1 : Int32) + (s96 u7 2)), .int a1]) (rest := []) hF (fun l D cy => kt_X2_raise a r hz7 w96_ l D cy) (Nat.le_of_ble_eq_true rfl) mV_X2_raise m_1186 (recv_ob obC_7) rfl rfl (Nat.le_of_ble_eq_true rfl) d_X2_unary_105 (qV (fun s105 w9 => ?_)) (fun _ _ _ h => h.elim)
        exact g_vret hF rfl d_X2_unary_108 ⟨rfl, rfl, rfl, w9⟩
      refine g_icmp_ne (yv := 48) hF 66 d_X2_unary_34 (by decide) rfl (by decide) (fun c => ?_) (fun c => ?_)
      · have w10 := w8.1 c
        refine g_iload_n hF d_X2_unary_66 rfl 1 rfl ?_
        refine g_bipush hF (v := 45) d_X2_unary_67 (by decide) ?_
        refine g_icmp_ne (yv := 45) hF 85 d_X2_unary_69 (by decide) rfl (by decide) (fun c => ?_) (fun c => ?_)
        · have w11 := w10.1 c
          refine g_aload_n hF d_X2_unary_85 rfl 2 rfl ?_
          refine g_aload_n hF d_X2_unary_86 rfl 2 rfl ?_
          refine g_aload_n hF d_X2_unary_87 rfl 0 rfl ?_
          refine g_callV (As := [.ref (r u7)]) (rest := [.ref (r 7)]) hF (fun l D cy => kt_X2_loaded a r hz7 w11 l D cy) (Nat.le_of_ble_eq_true rfl) mV_X2_loaded m_1164 (recv_ob obC_7) rfl rfl (Nat.le_of_ble_eq_true rfl) d_X2_unary_88 (qA (fun u88 s88 hz88 w12 => ?_)) (fun _ _ _ h => h.elim)
          refine g_iload_n hF d_X2_unary_91 rfl 1 rfl ?_
          refine g_iload_n hF d_X2_unary_92 rfl 3 rfl ?_
          refine g_callV (As := [.ref (r u88), .int v2, .int a1]) (rest := []) hF (fun l D cy => kt_X2_invert a r hz88 w12 l D cy) (Nat.le_of_ble_eq_true rfl) mV_X2_invert m_1262 (recv_ob obC_7) rfl rfl (Nat.le_of_ble_eq_true rfl) d_X2_unary_93 (qV (fun s93 w13 => ?_)) (fun _ _ _ h => h.elim)
          exact g_sub (L' := [(0, .ref (r 7)), (1, .int a1), (3, .ref (r u7))]) [2, 3, 0] rfl (b96 s93 w13)
        · have w14 := w10.2 c
          refine g_aload_n hF d_X2_unary_72 rfl 2 rfl ?_
          refine g_aload_n hF d_X2_unary_73 rfl 2 rfl ?_
          refine g_aload_n hF d_X2_unary_74 rfl 0 rfl ?_
          refine g_callV (As := [.ref (r u7)]) (rest := [.ref (r 7)]) hF (fun l D cy => kt_X2_loaded a r hz7 w14 l D cy) (Nat.le_of_ble_eq_true rfl) mV_X2_loaded m_1164 (recv_ob obC_7) rfl rfl (Nat.le_of_ble_eq_true rfl) d_X2_unary_75 (qA (fun u75 s75 hz75 w15 => ?_)) (fun _ _ _ h => h.elim)
          refine g_iload_n hF d_X2_unary_78 rfl 3 rfl ?_
          refine g_callV (As := [.ref (r u75), .int a1]) (rest := []) hF (fun l D cy => kt_X2_pointed a r hz75 w15 l D cy) (Nat.le_of_ble_eq_true rfl) mV_X2_pointed m_1250 (recv_ob obC_7) rfl rfl (Nat.le_of_ble_eq_true rfl) d_X2_unary_79 (qV (fun s79 w16 => ?_)) (fun _ _ _ h => h.elim)
          refine g_goto hF 96 d_X2_unary_82 (by decide) ?_
          exact g_sub (L' := [(0, .ref (r 7)), (1, .int a1), (3, .ref (r u7))]) [2, 3, 0] rfl (b96 s79 w16)
      · have w17 := w8.2 c
        refine g_aload_n hF d_X2_unary_37 rfl 0 rfl ?_
        refine g_callVN (As := []) (rest := []) hF (fun l D cy => kt_X6_isPlace a r hz7 w17 l D cy) (Nat.le_of_ble_eq_true rfl) mV_X6_isPlace nm_1168 (recv_ob (obC_op hz7)) rfl rfl (Nat.le_of_ble_eq_true rfl) d_X2_unary_38 (qZr (fun v38 hz38 w18 => ?_))
        obtain ⟨J58, h58, w19⟩ := w18
        have b58 : ∀ (s58 : St), J58 s58 → G SC r X s58 Z0 [] [(0, .ref (r 7)), (1, .int a1), (3, .ref (r u7))] [] 58 := by
          intro s58  w58_
          have w58_ := h58 s58  w58_
          refine g_aload_n hF d_X2_unary_58 rfl 0 rfl ?_
          refine g_aload_n hF d_X2_unary_59 rfl 2 rfl ?_
          refine g_callV (As := [.ref (r u7)]) (rest := []) hF (fun l D cy => kt_X2_address a r hz7 w58_ l D cy) (Nat.le_of_ble_eq_true rfl) mV_X2_address m_1137 (recv_ob obC_7) rfl rfl (Nat.le_of_ble_eq_true rfl) d_X2_unary_60 (qV (fun s60 w20 => ?_)) (fun _ _ _ h => h.elim)
          refine g_goto hF 96 d_X2_unary_63 (by decide) ?_
          exact b96 s60 w20
        obtain ⟨J53, h53, w21⟩ := w19
        have b53 : J53  → G SC r X σ Z0 [] [(0, .ref (r 7)), (1, .int a1), (3, .ref (r u7))] [] 53 := by
          intro   w53_
          have w53_ := h53   w53_
          refine g_aload_n hF d_X2_unary_53 rfl 0 rfl ?_
          refine g_iload_n hF d_X2_unary_54 rfl 1 rfl ?_
          refine g_callV (As := [.int a1]) (rest := []) hF (fun l D cy => kt_X2_refuse a r w53_ l D cy) (Nat.le_of_ble_eq_true rfl) mV_X2_refuse m_1126 (recv_ob obC_7) rfl rfl (Nat.le_of_ble_eq_true rfl) d_X2_unary_55 (qV (fun s55 w22 => ?_)) (fun _ _ _ h => h.elim)
          exact b58 s55 w22
        refine g_if_eq hF 53 d_X2_unary_41 (by decide) rfl (fun c => ?_) (fun c => ?_)
        · have w23 := w21.1 c
          exact g_sub (L' := [(0, .ref (r 7)), (1, .int a1), (3, .ref (r u7))]) [2, 3, 0] rfl (b53  w23)
        · have w24 := w21.2 c
          refine g_aload_n hF d_X2_unary_44 rfl 0 rfl ?_
          refine g_getN (v := .int (σ u7 1)) hF 1 (obC_op hz7) (by decide) nm_402 (fval_op hz7) d_X2_unary_45 ?_
          refine g_bipush hF (v := 9) d_X2_unary_48 (by decide) ?_
          refine g_icmp_lt (yv := 9) hF 58 d_X2_unary_50 (by decide) rfl (by decide) (fun c => ?_) (fun c => ?_)
          · have w25 := w24.1 c
            exact g_sub (L' := [(0, .ref (r 7)), (1, .int a1), (3, .ref (r u7))]) [2, 3, 0] rfl (b58 σ w25)
          · have w26 := w24.2 c
            exact g_sub (L' := [(0, .ref (r 7)), (1, .int a1), (3, .ref (r u7))]) [2, 3, 0] rfl (b53  w26)
    · have w27 := w6.2 c
      exact g_sub (L' := [(0, .ref (r 7)), (1, .int a1), (3, .ref (r u7))]) [2, 3, 0] rfl (b23  w27)
set_option maxHeartbeats 4000000 in
set_option maxRecDepth 100000 in
theorem kt_X2_cast (a : Nat → Nat) (r : Nat → Nat) {a1 : Int32} {a2 : Int32} {σ : St} {Q : St → Prop} (w : wk_X2_cast a1 a2 σ Q) (l : Launch) (D : va_G) (cy : Nat → ClassId) : Ct l D cy SC r (EC a gC) y_X2_cast (Cond.code y_X2_cast b_X2_cast 4 none) 2 [.ref (r 7), .int a1, .int a2] σ Z0 [] (QV Q) QT0 := by
  unfold wk_X2_cast at w
  refine Ct_of (EC_ok a gC) (by decide) (Nat.le_of_ble_eq_true rfl) (by decide) (fun X hnn hF => ?_)
  show G SC r X σ Z0 [] [(0, .ref (r 7)), (1, .int a1), (2, .int a2)] [] 0
  refine g_aload_n hF d_X2_cast_0 rfl 0 rfl ?_
  refine g_aload_n hF d_X2_cast_1 rfl 0 rfl ?_
  refine g_callV (As := []) (rest := [.ref (r 7)]) hF (fun l D cy => kt_X2_top a r w l D cy) (Nat.le_of_ble_eq_true rfl) mV_X2_top m_1160 (recv_ob obC_7) rfl rfl (Nat.le_of_ble_eq_true rfl) d_X2_cast_2 (qAr (fun u2 hz2 w1 => ?_)) (fun _ _ _ h => h.elim)
  refine g_callV (As := [.ref (r u2)]) (rest := []) hF (fun l D cy => kt_X2_loaded a r hz2 w1 l D cy) (Nat.le_of_ble_eq_true rfl) mV_X2_loaded m_1164 (recv_ob obC_7) rfl rfl (Nat.le_of_ble_eq_true rfl) d_X2_cast_5 (qA (fun u5 s5 hz5 w2 => ?_)) (fun _ _ _ h => h.elim)
  refine g_astore_n hF [(3, .ref (r u5)), (0, .ref (r 7)), (1, .int a1), (2, .int a2)] d_X2_cast_8 rfl hnn (by decide) rfl ?_
  refine g_aload_n hF d_X2_cast_9 rfl 0 rfl ?_
  refine g_getN (v := .int (s5 u5 1)) hF 1 (obC_op hz5) (by decide) nm_402 (fval_op hz5) d_X2_cast_10 ?_
  refine g_iconst hF (v := (-1)) d_X2_cast_13 (by decide) ?_
  obtain ⟨J22, h22, w3⟩ := w2
  have b22 : ∀ (s22 : St), J22 s22 → G SC r X s22 Z0 [] [(0, .ref (r 7)), (1, .int a1), (2, .int a2), (3, .ref (r u5))] [] 22 := by
    intro s22  w22_
    have w22_ := h22 s22  w22_
    refine g_aload_n hF d_X2_cast_22 rfl 3 rfl ?_
    refine g_iload_n hF d_X2_cast_23 rfl 2 rfl ?_
    refine g_iconst hF (v := 0) d_X2_cast_24 (by decide) ?_
    refine g_callVN (As := [.int a2, .int 0]) (rest := []) hF (fun l D cy => kt_X6_become a r hz5 w22_ l D cy) (Nat.le_of_ble_eq_true rfl) mV_X6_become nm_1100 (recv_ob (obC_op hz5)) rfl rfl (Nat.le_of_ble_eq_true rfl) d_X2_cast_25 (qV (fun s25 w4 => ?_))
    refine g_aload_n hF d_X2_cast_28 rfl 0 rfl ?_
    refine g_aload_n hF d_X2_cast_29 rfl 3 rfl ?_
    refine g_iconst hF (v := 1) d_X2_cast_30 (by decide) ?_
    refine g_aload_n hF d_X2_cast_31 rfl 3 rfl ?_
    refine g_getN (v := .int (s25 u5 2)) hF 2 (obC_op hz5) (by decide) nm_404 (fval_op hz5) d_X2_cast_32 ?_
    refine g_iadd hF d_X2_cast_35 ?_
    refine g_iload_n hF d_X2_cast_36 rfl 1 rfl ?_
    refine g_callV (As := [.ref (r u5), .int ((1 : Int32) + (s25 u5 2)), .int a1]) (rest := []) hF (fun l D cy => kt_X2_raise a r hz5 w4 l D cy) (Nat.le_of_ble_eq_true rfl) mV_X2_raise m_1186 (recv_ob obC_7) rfl rfl (Nat.le_of_ble_eq_true rfl) d_X2_cast_37 (qV (fun s37 w5 => ?_)) (fun _ _ _ h => h.elim)
    exact g_vret hF rfl d_X2_cast_40 ⟨rfl, rfl, rfl, w5⟩
  refine g_icmp_ne (yv := -1) hF 22 d_X2_cast_14 (by decide) rfl (by decide) (fun c => ?_) (fun c => ?_)
  · have w6 := w3.1 c
    exact g_sub (L' := [(0, .ref (r 7)), (1, .int a1), (2, .int a2), (3, .ref (r u5))]) [1, 2, 3, 0] rfl (b22 s5 w6)
  · have w7 := w3.2 c
    refine g_aload_n hF d_X2_cast_17 rfl 1 rfl ?_
    refine g_iload_n hF d_X2_cast_18 rfl 2 rfl ?_
    refine g_callV (As := [.int a1]) (rest := []) hF (fun l D cy => kt_X2_refuse a r w7 l D cy) (Nat.le_of_ble_eq_true rfl) mV_X2_refuse m_1126 (recv_ob obC_7) rfl rfl (Nat.le_of_ble_eq_true rfl) d_X2_cast_19 (qV (fun s19 w8 => ?_)) (fun _ _ _ h => h.elim)
    exact g_sub (L' := [(0, .ref (r 7)), (1, .int a1), (2, .int a2), (3, .ref (r u5))]) [1, 2, 3, 0] rfl (b22 s19 w8)
set_option maxHeartbeats 4000000 in
set_option maxRecDepth 100000 in
theorem kt_X2_unless (a : Nat → Nat) (r : Nat → Nat) {a1 : Nat} {a2 : Int32} {σ : St} {Q : Int32 → St → Prop} (ha1 : isOp a1) (w : wk_X2_unless a1 a2 σ Q) (l : Launch) (D : va_G) (cy : Nat → ClassId) : Ct l D cy SC r (EC a gC) y_X2_unless (Cond.code y_X2_unless b_X2_unless 3 (some .int)) 2 [.ref (r 7), .ref (r a1), .int a2] σ Z0 [] (QI Q) QT0 := by
  unfold wk_X2_unless at w
  refine Ct_of (EC_ok a gC) (by decide) (Nat.le_of_ble_eq_true rfl) (by decide) (fun X hnn hF => ?_)
  show G SC r X σ Z0 [] [(0, .ref (r 7)), (1, .ref (r a1)), (2, .int a2)] [] 0
  refine g_aload_n hF d_X2_unless_0 rfl 0 rfl ?_
  refine g_get (v := .ref (r 6)) hF 2 obC_7 (by decide) m_458 rfl d_X2_unless_1 ?_
  refine g_getN (v := .int (σ 6 2)) hF 2 obC_6 (by decide) nm_313 rfl d_X2_unless_4 ?_
  refine g_iconst hF (v := 2) d_X2_unless_7 (by decide) ?_
  obtain ⟨J53, h53, w1⟩ := w
  have b53 : J53  → G SC r X σ Z0 [] [(0, .ref (r 7)), (2, .int a2)] [] 53 := by
    intro   w53_
    have w53_ := h53   w53_
    refine g_aload_n hF d_X2_unless_53 rfl 0 rfl ?_
    refine g_get (v := .ref (r 4)) hF 4 obC_7 (by decide) m_461 rfl d_X2_unless_54 ?_
    refine g_bipush hF (v := 27) d_X2_unless_57 (by decide) ?_
    refine g_iload_n hF d_X2_unless_59 rfl 1 rfl ?_
    refine g_iconst hF (v := 0) d_X2_unless_60 (by decide) ?_
    refine g_iconst hF (v := 0) d_X2_unless_61 (by decide) ?_
    refine g_callVN (As := [.int 27, .int a2, .int 0, .int 0]) (rest := []) hF (fun l D cy => kt_X0_emit a r w53_ l D cy) (Nat.le_of_ble_eq_true rfl) mV_X0_emit nm_1071 (recv_ob obC_4) rfl rfl (Nat.le_of_ble_eq_true rfl) d_X2_unless_62 (qI (fun v62 s62 w2 => ?_))
    exact g_iret hF rfl d_X2_unless_65 ⟨rfl, rfl, v62, rfl, w2⟩
  refine g_icmp_le (yv := 2) hF 53 d_X2_unless_8 (by decide) rfl (by decide) (fun c => ?_) (fun c => ?_)
  · have w3 := w1.1 c
    exact g_sub (L' := [(0, .ref (r 7)), (2, .int a2)]) [0, 2] rfl (b53  w3)
  · have w4 := w1.2 c
    refine g_aload_n hF d_X2_unless_11 rfl 1 rfl ?_
    refine g_callVN (As := []) (rest := []) hF (fun l D cy => kt_X6_isConstant a r ha1 w4 l D cy) (Nat.le_of_ble_eq_true rfl) mV_X6_isConstant nm_1222 (recv_ob (obC_op ha1)) rfl rfl (Nat.le_of_ble_eq_true rfl) d_X2_unless_12 (qZr (fun v12 hz12 w5 => ?_))
    refine g_if_eq hF 53 d_X2_unless_15 (by decide) rfl (fun c => ?_) (fun c => ?_)
    · have w6 := w5.1 c
      exact g_sub (L' := [(0, .ref (r 7)), (2, .int a2)]) [0, 2] rfl (b53  w6)
    · have w7 := w5.2 c
      refine g_aload_n hF d_X2_unless_18 rfl 0 rfl ?_
      refine g_get (v := .ref (r 4)) hF 4 obC_7 (by decide) m_461 rfl d_X2_unless_19 ?_
      refine g_aload_n hF d_X2_unless_22 rfl 1 rfl ?_
      refine g_getN (v := .int (σ a1 9)) hF 9 (obC_op ha1) (by decide) nm_422 (fval_op ha1) d_X2_unless_23 ?_
      refine g_callVN (As := [.int (σ a1 9)]) (rest := []) hF (fun l D cy => kt_X0_cut a r w7 l D cy) (Nat.le_of_ble_eq_true rfl) mV_X0_cut nm_1237 (recv_ob obC_4) rfl rfl (Nat.le_of_ble_eq_true rfl) d_X2_unless_26 (qV (fun s26 w8 => ?_))
      refine g_aload_n hF d_X2_unless_29 rfl 1 rfl ?_
      refine g_getN (v := .int (s26 a1 8)) hF 8 (obC_op ha1) (by decide) nm_418 (fval_op ha1) d_X2_unless_30 ?_
      refine g_if_eq hF 40 d_X2_unless_33 (by decide) rfl (fun c => ?_) (fun c => ?_)
      · have w9 := w8.1 c
        refine g_aload_n hF d_X2_unless_40 rfl 0 rfl ?_
        refine g_get (v := .ref (r 4)) hF 4 obC_7 (by decide) m_461 rfl d_X2_unless_41 ?_
        refine g_bipush hF (v := 26) d_X2_unless_44 (by decide) ?_
        refine g_iload_n hF d_X2_unless_46 rfl 2 rfl ?_
        refine g_iconst hF (v := 0) d_X2_unless_47 (by decide) ?_
        refine g_iconst hF (v := 0) d_X2_unless_48 (by decide) ?_
        refine g_callVN (As := [.int 26, .int a2, .int 0, .int 0]) (rest := []) hF (fun l D cy => kt_X0_emit a r w9 l D cy) (Nat.le_of_ble_eq_true rfl) mV_X0_emit nm_1071 (recv_ob obC_4) rfl rfl (Nat.le_of_ble_eq_true rfl) d_X2_unless_49 (qI (fun v49 s49 w10 => ?_))
        exact g_iret hF rfl d_X2_unless_52 ⟨rfl, rfl, v49, rfl, w10⟩
      · have w11 := w8.2 c
        refine g_iload_n hF d_X2_unless_36 rfl 2 rfl ?_
        refine g_goto hF 52 d_X2_unless_37 (by decide) ?_
        exact g_iret hF rfl d_X2_unless_52 ⟨rfl, rfl, a2, rfl, w11⟩
set_option maxHeartbeats 4000000 in
set_option maxRecDepth 100000 in
theorem kt_X2_colon (a : Nat → Nat) (r : Nat → Nat) {σ : St} {Q : St → Prop} (w : wk_X2_colon  σ Q) (l : Launch) (D : va_G) (cy : Nat → ClassId) : Ct l D cy SC r (EC a gC) y_X2_colon (Cond.code y_X2_colon b_X2_colon 3 none) 2 [.ref (r 7)] σ Z0 [] (QV Q) QT0 := by
  unfold wk_X2_colon at w
  refine Ct_of (EC_ok a gC) (by decide) (Nat.le_of_ble_eq_true rfl) (by decide) (fun X hnn hF => ?_)
  show G SC r X σ Z0 [] [(0, .ref (r 7))] [] 0
  refine g_aload_n hF d_X2_colon_0 rfl 0 rfl ?_
  refine g_aload_n hF d_X2_colon_1 rfl 0 rfl ?_
  refine g_callV (As := []) (rest := [.ref (r 7)]) hF (fun l D cy => kt_X2_top a r w l D cy) (Nat.le_of_ble_eq_true rfl) mV_X2_top m_1160 (recv_ob obC_7) rfl rfl (Nat.le_of_ble_eq_true rfl) d_X2_colon_2 (qAr (fun u2 hz2 w1 => ?_)) (fun _ _ _ h => h.elim)
  refine g_callV (As := [.ref (r u2)]) (rest := []) hF (fun l D cy => kt_X2_loaded a r hz2 w1 l D cy) (Nat.le_of_ble_eq_true rfl) mV_X2_loaded m_1164 (recv_ob obC_7) rfl rfl (Nat.le_of_ble_eq_true rfl) d_X2_colon_5 (qA (fun u5 s5 hz5 w2 => ?_)) (fun _ _ _ h => h.elim)
  refine g_pop hF d_X2_colon_8 rfl ?_
  refine g_aload_n hF d_X2_colon_9 rfl 0 rfl ?_
  refine g_get (v := .int (s5 7 7)) hF 7 obC_7 (by decide) m_464 rfl d_X2_colon_10 ?_
  refine g_iconst hF (v := 1) d_X2_colon_13 (by decide) ?_
  obtain ⟨J47, h47, w3⟩ := w2
  have b47 : ∀ (y0_47 : Nat), isOp y0_47 → J47 y0_47 → G SC r X s5 Z0 [] [(0, .ref (r 7))] [.ref (r y0_47)] 47 := by
    intro y0_47 hy0_47 w47_
    have w47_ := h47 y0_47 hy0_47 w47_
    refine g_astore_n hF [(1, .ref (r y0_47)), (0, .ref (r 7))] d_X2_colon_47 rfl hnn (by decide) rfl ?_
    refine g_aload_n hF d_X2_colon_48 rfl 1 rfl ?_
    refine g_get (v := .ref (r 4)) hF 4 obC_7 (by decide) m_461 rfl d_X2_colon_49 ?_
    refine g_bipush hF (v := 26) d_X2_colon_52 (by decide) ?_
    refine g_iconst hF (v := (-1)) d_X2_colon_54 (by decide) ?_
    refine g_iconst hF (v := 0) d_X2_colon_55 (by decide) ?_
    refine g_iconst hF (v := 0) d_X2_colon_56 (by decide) ?_
    refine g_callVN (As := [.int 26, .int (-1), .int 0, .int 0]) (rest := []) hF (fun l D cy => kt_X0_emit a r w47_ l D cy) (Nat.le_of_ble_eq_true rfl) mV_X0_emit nm_1071 (recv_ob obC_4) rfl rfl (Nat.le_of_ble_eq_true rfl) d_X2_colon_57 (qI (fun v57 s57 w4 => ?_))
    refine g_istore_n hF [(2, .int v57), (1, .ref (r y0_47)), (0, .ref (r 7))] d_X2_colon_60 rfl hnn (by decide) rfl ?_
    refine g_aload_n hF d_X2_colon_61 rfl 2 rfl ?_
    refine g_get (v := .ref (r 4)) hF 4 obC_7 (by decide) m_461 rfl d_X2_colon_62 ?_
    refine g_aload_n hF d_X2_colon_65 rfl 1 rfl ?_
    refine g_getN (v := .int (s57 y0_47 10)) hF 10 (obC_op hy0_47) (by decide) nm_424 (fval_op hy0_47) d_X2_colon_66 ?_
    refine g_aload_n hF d_X2_colon_69 rfl 2 rfl ?_
    refine g_get (v := .ref (r 4)) hF 4 obC_7 (by decide) m_461 rfl d_X2_colon_70 ?_
    refine g_getN (v := .int (s57 4 1)) hF 1 obC_4 (by decide) nm_155 rfl d_X2_colon_73 ?_
    refine g_callVN (As := [.int (s57 y0_47 10), .int (s57 4 1)]) (rest := []) hF (fun l D cy => kt_X0_aim a r w4 l D cy) (Nat.le_of_ble_eq_true rfl) mV_X0_aim nm_1209 (recv_ob obC_4) rfl rfl (Nat.le_of_ble_eq_true rfl) d_X2_colon_76 (qV (fun s76 w5 => ?_))
    refine g_aload_n hF d_X2_colon_79 rfl 1 rfl ?_
    refine g_iload_n hF d_X2_colon_80 rfl 0 rfl ?_
    refine g_putN (v := v57) hF 10 (obC_op hy0_47) (by decide) nm_424 rfl rfl (rf_op hy0_47) d_X2_colon_81 ?_
    obtain ⟨s5n, es5n⟩ : ∃ z, z = upC s76 y0_47 10 v57 := ⟨_, rfl⟩
    rw [← es5n]
    have w7 := w5 s5n es5n
    exact g_vret hF rfl d_X2_colon_84 ⟨rfl, rfl, rfl, w7⟩
  obtain ⟨J43, h43, w8⟩ := w3
  have b43 : J43  → G SC r X s5 Z0 [] [(0, .ref (r 7))] [] 43 := by
    intro   w43_
    have w43_ := h43   w43_
    refine g_aload_n hF d_X2_colon_43 rfl 0 rfl ?_
    refine g_get (v := .ref (r 47)) hF 6 obC_7 (by decide) m_463 rfl d_X2_colon_44 ?_
    exact b47 47 (Or.inl rfl) w43_
  refine g_icmp_le (yv := 1) hF 43 d_X2_colon_14 (by decide) rfl (by decide) (fun c => ?_) (fun c => ?_)
  · have w9 := w8.1 c
    exact b43  w9
  · have w10 := w8.2 c
    refine g_aload_n hF d_X2_colon_17 rfl 0 rfl ?_
    refine g_get (v := .int (s5 7 7)) hF 7 obC_7 (by decide) m_464 rfl d_X2_colon_18 ?_
    refine g_aload_n hF d_X2_colon_21 rfl 0 rfl ?_
    refine g_get (v := .ref (r 46)) hF 5 obC_7 (by decide) m_462 rfl d_X2_colon_22 ?_
    refine g_alenR hF (by decide) rfl (v := 500) (by decide) d_X2_colon_25 ?_
    refine g_icmp_gt (yv := 500) hF 43 d_X2_colon_26 (by decide) rfl (by decide) (fun c => ?_) (fun c => ?_)
    · have w11 := w10.1 c
      exact b43  w11
    · have w12 := w10.2 c
      refine g_aload_n hF d_X2_colon_29 rfl 0 rfl ?_
      refine g_get (v := .ref (r 46)) hF 5 obC_7 (by decide) m_462 rfl d_X2_colon_30 ?_
      refine g_aload_n hF d_X2_colon_33 rfl 0 rfl ?_
      refine g_get (v := .int (s5 7 7)) hF 7 obC_7 (by decide) m_464 rfl d_X2_colon_34 ?_
      refine g_iconst hF (v := 2) d_X2_colon_37 (by decide) ?_
      refine g_isub hF d_X2_colon_38 ?_
      have w13 := w12.2
      refine g_aald hF (by decide) rfl (s_in (Nat.le_of_ble_eq_true rfl) w12.1.1 w12.1.2) d_X2_colon_39 ?_
      refine g_goto hF 47 d_X2_colon_40 (by decide) ?_
      exact b47 (65 + ((s5 7 7) - (2 : Int32)).toNatClampNeg) (isOp_row w12.1) w13
set_option maxHeartbeats 4000000 in
set_option maxRecDepth 100000 in
theorem kt_X2_choice (a : Nat → Nat) (r : Nat → Nat) {a1 : Int32} {σ : St} {Q : St → Prop} (w : wk_X2_choice a1 σ Q) (l : Launch) (D : va_G) (cy : Nat → ClassId) : Ct l D cy SC r (EC a gC) y_X2_choice (Cond.code y_X2_choice b_X2_choice 6 none) 3 [.ref (r 7), .int a1] σ Z0 [] (QV Q) QT0 := by
  unfold wk_X2_choice at w
  refine Ct_of (EC_ok a gC) (by decide) (Nat.le_of_ble_eq_true rfl) (by decide) (fun X hnn hF => ?_)
  show G SC r X σ Z0 [] [(0, .ref (r 7)), (1, .int a1)] [] 0
  refine g_aload_n hF d_X2_choice_0 rfl 0 rfl ?_
  refine g_callV (As := []) (rest := []) hF (fun l D cy => kt_X2_pop a r w l D cy) (Nat.le_of_ble_eq_true rfl) mV_X2_pop m_1156 (recv_ob obC_7) rfl rfl (Nat.le_of_ble_eq_true rfl) d_X2_choice_1 (qA (fun u1 s1 hz1 w1 => ?_)) (fun _ _ _ h => h.elim)
  refine g_astore_n hF [(2, .ref (r u1)), (0, .ref (r 7)), (1, .int a1)] d_X2_choice_4 rfl hnn (by decide) rfl ?_
  refine g_aload_n hF d_X2_choice_5 rfl 1 rfl ?_
  refine g_callV (As := []) (rest := []) hF (fun l D cy => kt_X2_pop a r w1 l D cy) (Nat.le_of_ble_eq_true rfl) mV_X2_pop m_1156 (recv_ob obC_7) rfl rfl (Nat.le_of_ble_eq_true rfl) d_X2_choice_6 (qA (fun u6 s6 hz6 w2 => ?_)) (fun _ _ _ h => h.elim)
  refine g_astore_n hF [(3, .ref (r u6)), (2, .ref (r u1)), (0, .ref (r 7)), (1, .int a1)] d_X2_choice_9 rfl hnn (by decide) rfl ?_
  refine g_aload_n hF d_X2_choice_10 rfl 2 rfl ?_
  refine g_callV (As := []) (rest := []) hF (fun l D cy => kt_X2_top a r w2 l D cy) (Nat.le_of_ble_eq_true rfl) mV_X2_top m_1160 (recv_ob obC_7) rfl rfl (Nat.le_of_ble_eq_true rfl) d_X2_choice_11 (qAr (fun u11 hz11 w3 => ?_)) (fun _ _ _ h => h.elim)
  refine g_astore hF [(4, .ref (r u11)), (3, .ref (r u6)), (2, .ref (r u1)), (0, .ref (r 7)), (1, .int a1)] d_X2_choice_14 hnn (by decide) rfl ?_
  refine g_aload_n hF d_X2_choice_16 rfl 3 rfl ?_
  refine g_get (v := .ref (r 4)) hF 4 obC_7 (by decide) m_461 rfl d_X2_choice_17 ?_
  refine g_aload hF d_X2_choice_20 0 rfl ?_
  refine g_getN (v := .int (s6 u11 10)) hF 10 (obC_op hz11) (by decide) nm_424 (fval_op hz11) d_X2_choice_22 ?_
  refine g_aload_n hF d_X2_choice_25 rfl 3 rfl ?_
  refine g_get (v := .ref (r 4)) hF 4 obC_7 (by decide) m_461 rfl d_X2_choice_26 ?_
  refine g_getN (v := .int (s6 4 1)) hF 1 obC_4 (by decide) nm_155 rfl d_X2_choice_29 ?_
  refine g_callVN (As := [.int (s6 u11 10), .int (s6 4 1)]) (rest := []) hF (fun l D cy => kt_X0_aim a r w3 l D cy) (Nat.le_of_ble_eq_true rfl) mV_X0_aim nm_1209 (recv_ob obC_4) rfl rfl (Nat.le_of_ble_eq_true rfl) d_X2_choice_32 (qV (fun s32 w4 => ?_))
  refine g_aload hF d_X2_choice_35 0 rfl ?_
  refine g_getN (v := .int (s32 u11 1)) hF 1 (obC_op hz11) (by decide) nm_402 (fval_op hz11) d_X2_choice_37 ?_
  refine g_iconst hF (v := (-1)) d_X2_choice_40 (by decide) ?_
  obtain ⟨J71, h71, w5⟩ := w4
  have b71 : ∀ (s71 : St), J71 s71 → G SC r X s71 Z0 [] [(0, .ref (r 7)), (1, .int a1), (2, .ref (r u1)), (3, .ref (r u6)), (4, .ref (r u11))] [] 71 := by
    intro s71  w71_
    have w71_ := h71 s71  w71_
    refine g_aload hF d_X2_choice_71 4 rfl ?_
    refine g_getN (v := .int (s71 u11 2)) hF 2 (obC_op hz11) (by decide) nm_404 (fval_op hz11) d_X2_choice_73 ?_
    refine g_aload_n hF d_X2_choice_76 rfl 3 rfl ?_
    refine g_getN (v := .int (s71 u6 2)) hF 2 (obC_op hz6) (by decide) nm_404 (fval_op hz6) d_X2_choice_77 ?_
    refine g_aload_n hF d_X2_choice_80 rfl 2 rfl ?_
    refine g_getN (v := .int (s71 u1 2)) hF 2 (obC_op hz1) (by decide) nm_404 (fval_op hz1) d_X2_choice_81 ?_
    refine g_mmax hF (Nat.le_of_ble_eq_true rfl) m_1130 m_1131 m_23 m_1132 (Nat.le_of_ble_eq_true rfl) d_X2_choice_84 ?_
    refine g_mmax hF (Nat.le_of_ble_eq_true rfl) m_1130 m_1131 m_23 m_1132 (Nat.le_of_ble_eq_true rfl) d_X2_choice_87 ?_
    refine g_istore hF [(5, .int (if (s71 u11 2) < (if (s71 u6 2) < (s71 u1 2) then (s71 u1 2) else (s71 u6 2)) then (if (s71 u6 2) < (s71 u1 2) then (s71 u1 2) else (s71 u6 2)) else (s71 u11 2))), (0, .ref (r 7)), (1, .int a1), (2, .ref (r u1)), (3, .ref (r u6)), (4, .ref (r u11))] d_X2_choice_90 hnn (by decide) rfl ?_
    refine g_aload hF d_X2_choice_92 5 rfl ?_
    refine g_aload_n hF d_X2_choice_94 rfl 4 rfl ?_
    refine g_getN (v := .int (s71 u6 1)) hF 1 (obC_op hz6) (by decide) nm_402 (fval_op hz6) d_X2_choice_95 ?_
    refine g_aload_n hF d_X2_choice_98 rfl 3 rfl ?_
    refine g_getN (v := .int (s71 u1 1)) hF 1 (obC_op hz1) (by decide) nm_402 (fval_op hz1) d_X2_choice_99 ?_
    refine g_mmax hF (Nat.le_of_ble_eq_true rfl) m_1130 m_1131 m_23 m_1132 (Nat.le_of_ble_eq_true rfl) d_X2_choice_102 ?_
    refine g_iconst hF (v := 0) d_X2_choice_105 (by decide) ?_
    refine g_callVN (As := [.int (if (s71 u6 1) < (s71 u1 1) then (s71 u1 1) else (s71 u6 1)), .int 0]) (rest := []) hF (fun l D cy => kt_X6_become a r hz11 w71_ l D cy) (Nat.le_of_ble_eq_true rfl) mV_X6_become nm_1100 (recv_ob (obC_op hz11)) rfl rfl (Nat.le_of_ble_eq_true rfl) d_X2_choice_106 (qV (fun s106 w6 => ?_))
    refine g_aload_n hF d_X2_choice_109 rfl 1 rfl ?_
    refine g_aload hF d_X2_choice_110 5 rfl ?_
    refine g_iconst hF (v := 1) d_X2_choice_112 (by decide) ?_
    refine g_iload hF d_X2_choice_113 0 rfl ?_
    refine g_iadd hF d_X2_choice_115 ?_
    refine g_iload_n hF d_X2_choice_116 rfl 2 rfl ?_
    refine g_callV (As := [.ref (r u11), .int ((1 : Int32) + (if (s71 u11 2) < (if (s71 u6 2) < (s71 u1 2) then (s71 u1 2) else (s71 u6 2)) then (if (s71 u6 2) < (s71 u1 2) then (s71 u1 2) else (s71 u6 2)) else (s71 u11 2))), .int a1]) (rest := []) hF (fun l D cy => kt_X2_raise a r hz11 w6 l D cy) (Nat.le_of_ble_eq_true rfl) mV_X2_raise m_1186 (recv_ob obC_7) rfl rfl (Nat.le_of_ble_eq_true rfl) d_X2_choice_117 (qV (fun s117 w7 => ?_)) (fun _ _ _ h => h.elim)
    exact g_vret hF rfl d_X2_choice_120 ⟨rfl, rfl, rfl, w7⟩
  obtain ⟨J66, h66, w8⟩ := w5
  have b66 : J66  → G SC r X s32 Z0 [] [(0, .ref (r 7)), (1, .int a1), (2, .ref (r u1)), (3, .ref (r u6)), (4, .ref (r u11))] [] 66 := by
    intro   w66_
    have w66_ := h66   w66_
    refine g_aload_n hF d_X2_choice_66 rfl 0 rfl ?_
    refine g_iload_n hF d_X2_choice_67 rfl 1 rfl ?_
    refine g_callV (As := [.int a1]) (rest := []) hF (fun l D cy => kt_X2_refuse a r w66_ l D cy) (Nat.le_of_ble_eq_true rfl) mV_X2_refuse m_1126 (recv_ob obC_7) rfl rfl (Nat.le_of_ble_eq_true rfl) d_X2_choice_68 (qV (fun s68 w9 => ?_)) (fun _ _ _ h => h.elim)
    exact b71 s68 w9
  refine g_icmp_eq (yv := -1) hF 66 d_X2_choice_41 (by decide) rfl (by decide) (fun c => ?_) (fun c => ?_)
  · have w10 := w8.1 c
    exact g_sub (L' := [(0, .ref (r 7)), (1, .int a1), (2, .ref (r u1)), (3, .ref (r u6)), (4, .ref (r u11))]) [3, 4, 2, 1, 0] rfl (b66  w10)
  · have w11 := w8.2 c
    refine g_aload_n hF d_X2_choice_44 rfl 2 rfl ?_
    refine g_aload_n hF d_X2_choice_45 rfl 1 rfl ?_
    refine g_getN (v := .int (s32 u6 1)) hF 1 (obC_op hz6) (by decide) nm_402 (fval_op hz6) d_X2_choice_46 ?_
    refine g_callVN (As := [.int (s32 u6 1)]) (rest := []) hF (fun l D cy => kt_X6_fits a r hz1 w11 l D cy) (Nat.le_of_ble_eq_true rfl) mV_X6_fits nm_1174 (recv_ob (obC_op hz1)) rfl rfl (Nat.le_of_ble_eq_true rfl) d_X2_choice_49 (qZr (fun v49 hz49 w12 => ?_))
    refine g_if_ne hF 71 d_X2_choice_52 (by decide) rfl (fun c => ?_) (fun c => ?_)
    · have w13 := w12.1 c
      exact g_sub (L' := [(0, .ref (r 7)), (1, .int a1), (2, .ref (r u1)), (3, .ref (r u6)), (4, .ref (r u11))]) [3, 4, 2, 1, 0] rfl (b71 s32 w13)
    · have w14 := w12.2 c
      refine g_aload_n hF d_X2_choice_55 rfl 1 rfl ?_
      refine g_aload_n hF d_X2_choice_56 rfl 2 rfl ?_
      refine g_getN (v := .int (s32 u1 1)) hF 1 (obC_op hz1) (by decide) nm_402 (fval_op hz1) d_X2_choice_57 ?_
      refine g_callVN (As := [.int (s32 u1 1)]) (rest := []) hF (fun l D cy => kt_X6_fits a r hz6 w14 l D cy) (Nat.le_of_ble_eq_true rfl) mV_X6_fits nm_1174 (recv_ob (obC_op hz6)) rfl rfl (Nat.le_of_ble_eq_true rfl) d_X2_choice_60 (qZr (fun v60 hz60 w15 => ?_))
      refine g_if_ne hF 71 d_X2_choice_63 (by decide) rfl (fun c => ?_) (fun c => ?_)
      · have w16 := w15.1 c
        exact g_sub (L' := [(0, .ref (r 7)), (1, .int a1), (2, .ref (r u1)), (3, .ref (r u6)), (4, .ref (r u11))]) [3, 4, 2, 1, 0] rfl (b71 s32 w16)
      · have w17 := w15.2 c
        exact g_sub (L' := [(0, .ref (r 7)), (1, .int a1), (2, .ref (r u1)), (3, .ref (r u6)), (4, .ref (r u11))]) [3, 4, 2, 1, 0] rfl (b66  w17)
set_option maxHeartbeats 4000000 in
set_option maxRecDepth 100000 in
theorem kt_X2_take (a : Nat → Nat) (r : Nat → Nat) {a1 : Int32} {σ : St} {Q : St → Prop} (w : wk_X2_take a1 σ Q) (l : Launch) (D : va_G) (cy : Nat → ClassId) : Ct l D cy SC r (EC a gC) y_X2_take (Cond.code y_X2_take b_X2_take 3 none) 5 [.ref (r 7), .int a1] σ Z0 [] (QV Q) QT0 := by
  unfold wk_X2_take at w
  refine Ct_of (EC_ok a gC) (by decide) (Nat.le_of_ble_eq_true rfl) (by decide) (fun X hnn hF => ?_)
  show G SC r X σ Z0 [] [(0, .ref (r 7)), (1, .int a1)] [] 0
  refine g_aload_n hF d_X2_take_0 rfl 0 rfl ?_
  refine g_get (v := .ref (r 3)) hF 0 obC_7 (by decide) m_456 rfl d_X2_take_1 ?_
  refine g_getN (v := .ref (r 19)) hF 6 obC_3 (by decide) nm_105 rfl d_X2_take_4 ?_
  refine g_iload_n hF d_X2_take_7 rfl 1 rfl ?_
  refine g_callSN (As := [.ref (r 19), .int a1]) (rest := []) hF (c_atv a r σ arC_19 (by decide) a1) (Nat.le_of_ble_eq_true rfl) mS_X12_at nm_1058 rfl rfl (Nat.le_of_ble_eq_true rfl) d_X2_take_8 (kQ ?_)
  refine g_top (v := (atv 32100 (σ 19) a1)) rfl ?_
  refine g_istore_n hF [(2, .int (atv 32100 (σ 19) a1)), (0, .ref (r 7)), (1, .int a1)] d_X2_take_11 rfl hnn (by decide) rfl ?_
  refine g_aload_n hF d_X2_take_12 rfl 1 rfl ?_
  refine g_get (v := .ref (r 3)) hF 0 obC_7 (by decide) m_456 rfl d_X2_take_13 ?_
  refine g_getN (v := .ref (r 18)) hF 5 obC_3 (by decide) nm_102 rfl d_X2_take_16 ?_
  refine g_iload_n hF d_X2_take_19 rfl 2 rfl ?_
  refine g_callSN (As := [.ref (r 18), .int a1]) (rest := []) hF (c_atv a r σ arC_18 (by decide) a1) (Nat.le_of_ble_eq_true rfl) mS_X12_at nm_1058 rfl rfl (Nat.le_of_ble_eq_true rfl) d_X2_take_20 (kQ ?_)
  refine g_top (v := (atv 32100 (σ 18) a1)) rfl ?_
  refine (Decidable.em ((atv 32100 (σ 18) a1).toInt = 1)).elim (fun q23_0 => ?_) (fun q23_0 => ?_)
  · have w1 := w.1 q23_0
    refine g_tableIn (off := 73) hF 96 d_X2_take_23 q23_0 (by decide) (by decide) (by decide +kernel) (by decide) ?_
    refine g_aload_n hF d_X2_take_96 rfl 1 rfl ?_
    refine g_iload_n hF d_X2_take_97 rfl 0 rfl ?_
    refine g_callV (As := [.int (atv 32100 (σ 19) a1)]) (rest := []) hF (fun l D cy => kt_X2_number a r w1 l D cy) (Nat.le_of_ble_eq_true rfl) mV_X2_number m_1059 (recv_ob obC_7) rfl rfl (Nat.le_of_ble_eq_true rfl) d_X2_take_98 (qV (fun s98 w2 => ?_)) (fun _ _ _ h => h.elim)
    refine g_goto hF 250 d_X2_take_101 (by decide) ?_
    exact g_vret hF rfl d_X2_take_250 ⟨rfl, rfl, rfl, w2⟩
  have w3 := w.2 q23_0
  refine (Decidable.em ((atv 32100 (σ 18) a1).toInt = 2)).elim (fun q23_1 => ?_) (fun q23_1 => ?_)
  · have w4 := w3.1 q23_1
    refine g_tableIn (off := 81) hF 104 d_X2_take_23 q23_1 (by decide) (by decide) (by decide +kernel) (by decide) ?_
    refine g_aload_n hF d_X2_take_104 rfl 1 rfl ?_
    refine g_iload_n hF d_X2_take_105 rfl 0 rfl ?_
    refine g_callV (As := [.int (atv 32100 (σ 19) a1)]) (rest := []) hF (fun l D cy => kt_X2_string a r w4 l D cy) (Nat.le_of_ble_eq_true rfl) mV_X2_string m_1077 (recv_ob obC_7) rfl rfl (Nat.le_of_ble_eq_true rfl) d_X2_take_106 (qV (fun s106 w5 => ?_)) (fun _ _ _ h => h.elim)
    refine g_goto hF 250 d_X2_take_109 (by decide) ?_
    exact g_vret hF rfl d_X2_take_250 ⟨rfl, rfl, rfl, w5⟩
  have w6 := w3.2 q23_1
  refine (Decidable.em ((atv 32100 (σ 18) a1).toInt = 3)).elim (fun q23_2 => ?_) (fun q23_2 => ?_)
  · have w7 := w6.1 q23_2
    refine g_tableIn (off := 89) hF 112 d_X2_take_23 q23_2 (by decide) (by decide) (by decide +kernel) (by decide) ?_
    refine g_aload_n hF d_X2_take_112 rfl 1 rfl ?_
    refine g_iload_n hF d_X2_take_113 rfl 0 rfl ?_
    refine g_callV (As := [.int (atv 32100 (σ 19) a1)]) (rest := []) hF (fun l D cy => kt_X2_named a r w7 l D cy) (Nat.le_of_ble_eq_true rfl) mV_X2_named m_1104 (recv_ob obC_7) rfl rfl (Nat.le_of_ble_eq_true rfl) d_X2_take_114 (qV (fun s114 w8 => ?_)) (fun _ _ _ h => h.elim)
    refine g_goto hF 250 d_X2_take_117 (by decide) ?_
    exact g_vret hF rfl d_X2_take_250 ⟨rfl, rfl, rfl, w8⟩
  have w9 := w6.2 q23_2
  refine (Decidable.em ((atv 32100 (σ 18) a1).toInt = 4)).elim (fun q23_3 => ?_) (fun q23_3 => ?_)
  · have w10 := w9.1 q23_3
    refine g_tableIn (off := 97) hF 120 d_X2_take_23 q23_3 (by decide) (by decide) (by decide +kernel) (by decide) ?_
    refine g_aload_n hF d_X2_take_120 rfl 1 rfl ?_
    refine g_iload_n hF d_X2_take_121 rfl 0 rfl ?_
    refine g_callV (As := [.int (atv 32100 (σ 19) a1)]) (rest := []) hF (fun l D cy => kt_X2_callee a r w10 l D cy) (Nat.le_of_ble_eq_true rfl) mV_X2_callee m_1142 (recv_ob obC_7) rfl rfl (Nat.le_of_ble_eq_true rfl) d_X2_take_122 (qV (fun s122 w11 => ?_)) (fun _ _ _ h => h.elim)
    refine g_goto hF 250 d_X2_take_125 (by decide) ?_
    exact g_vret hF rfl d_X2_take_250 ⟨rfl, rfl, rfl, w11⟩
  have w12 := w9.2 q23_3
  refine (Decidable.em ((atv 32100 (σ 18) a1).toInt = 5)).elim (fun q23_4 => ?_) (fun q23_4 => ?_)
  · have w13 := w12.1 q23_4
    refine g_tableIn (off := 105) hF 128 d_X2_take_23 q23_4 (by decide) (by decide) (by decide +kernel) (by decide) ?_
    refine g_aload_n hF d_X2_take_128 rfl 1 rfl ?_
    refine g_callV (As := []) (rest := []) hF (fun l D cy => kt_X2_argument a r w13 l D cy) (Nat.le_of_ble_eq_true rfl) mV_X2_argument m_1152 (recv_ob obC_7) rfl rfl (Nat.le_of_ble_eq_true rfl) d_X2_take_129 (qV (fun s129 w14 => ?_)) (fun _ _ _ h => h.elim)
    refine g_goto hF 250 d_X2_take_132 (by decide) ?_
    exact g_vret hF rfl d_X2_take_250 ⟨rfl, rfl, rfl, w14⟩
  have w15 := w12.2 q23_4
  refine (Decidable.em ((atv 32100 (σ 18) a1).toInt = 6)).elim (fun q23_5 => ?_) (fun q23_5 => ?_)
  · have w16 := w15.1 q23_5
    refine g_tableIn (off := 112) hF 135 d_X2_take_23 q23_5 (by decide) (by decide) (by decide +kernel) (by decide) ?_
    refine g_aload_n hF d_X2_take_135 rfl 1 rfl ?_
    refine g_iload_n hF d_X2_take_136 rfl 0 rfl ?_
    refine g_callV (As := [.int (atv 32100 (σ 19) a1)]) (rest := []) hF (fun l D cy => kt_X2_call a r w16 l D cy) (Nat.le_of_ble_eq_true rfl) mV_X2_call m_1178 (recv_ob obC_7) rfl rfl (Nat.le_of_ble_eq_true rfl) d_X2_take_137 (qV (fun s137 w17 => ?_)) (fun _ _ _ h => h.elim)
    refine g_goto hF 250 d_X2_take_140 (by decide) ?_
    exact g_vret hF rfl d_X2_take_250 ⟨rfl, rfl, rfl, w17⟩
  have w18 := w15.2 q23_5
  refine (Decidable.em ((atv 32100 (σ 18) a1).toInt = 7)).elim (fun q23_6 => ?_) (fun q23_6 => ?_)
  · have w19 := w18.1 q23_6
    refine g_tableIn (off := 120) hF 143 d_X2_take_23 q23_6 (by decide) (by decide) (by decide +kernel) (by decide) ?_
    refine g_aload_n hF d_X2_take_143 rfl 1 rfl ?_
    refine g_iload_n hF d_X2_take_144 rfl 0 rfl ?_
    refine g_callV (As := [.int (atv 32100 (σ 19) a1)]) (rest := []) hF (fun l D cy => kt_X2_left a r w19 l D cy) (Nat.le_of_ble_eq_true rfl) mV_X2_left m_1190 (recv_ob obC_7) rfl rfl (Nat.le_of_ble_eq_true rfl) d_X2_take_145 (qV (fun s145 w20 => ?_)) (fun _ _ _ h => h.elim)
    refine g_goto hF 250 d_X2_take_148 (by decide) ?_
    exact g_vret hF rfl d_X2_take_250 ⟨rfl, rfl, rfl, w20⟩
  have w21 := w18.2 q23_6
  refine (Decidable.em ((atv 32100 (σ 18) a1).toInt = 8)).elim (fun q23_7 => ?_) (fun q23_7 => ?_)
  · have w22 := w21.1 q23_7
    refine g_tableIn (off := 128) hF 151 d_X2_take_23 q23_7 (by decide) (by decide) (by decide +kernel) (by decide) ?_
    refine g_aload_n hF d_X2_take_151 rfl 1 rfl ?_
    refine g_iload_n hF d_X2_take_152 rfl 0 rfl ?_
    refine g_callV (As := [.int (atv 32100 (σ 19) a1)]) (rest := []) hF (fun l D cy => kt_X2_binary a r w22 l D cy) (Nat.le_of_ble_eq_true rfl) mV_X2_binary m_1202 (recv_ob obC_7) rfl rfl (Nat.le_of_ble_eq_true rfl) d_X2_take_153 (qV (fun s153 w23 => ?_)) (fun _ _ _ h => h.elim)
    refine g_goto hF 250 d_X2_take_156 (by decide) ?_
    exact g_vret hF rfl d_X2_take_250 ⟨rfl, rfl, rfl, w23⟩
  have w24 := w21.2 q23_7
  refine (Decidable.em ((atv 32100 (σ 18) a1).toInt = 9)).elim (fun q23_8 => ?_) (fun q23_8 => ?_)
  · have w25 := w24.1 q23_8
    refine g_tableIn (off := 136) hF 159 d_X2_take_23 q23_8 (by decide) (by decide) (by decide +kernel) (by decide) ?_
    refine g_aload_n hF d_X2_take_159 rfl 1 rfl ?_
    refine g_iload_n hF d_X2_take_160 rfl 0 rfl ?_
    refine g_callV (As := [.int (atv 32100 (σ 19) a1)]) (rest := []) hF (fun l D cy => kt_X2_assign a r w25 l D cy) (Nat.le_of_ble_eq_true rfl) mV_X2_assign m_1242 (recv_ob obC_7) rfl rfl (Nat.le_of_ble_eq_true rfl) d_X2_take_161 (qV (fun s161 w26 => ?_)) (fun _ _ _ h => h.elim)
    refine g_goto hF 250 d_X2_take_164 (by decide) ?_
    exact g_vret hF rfl d_X2_take_250 ⟨rfl, rfl, rfl, w26⟩
  have w27 := w24.2 q23_8
  refine (Decidable.em ((atv 32100 (σ 18) a1).toInt = 10)).elim (fun q23_9 => ?_) (fun q23_9 => ?_)
  · have w28 := w27.1 q23_9
    refine g_tableIn (off := 144) hF 167 d_X2_take_23 q23_9 (by decide) (by decide) (by decide +kernel) (by decide) ?_
    refine g_aload_n hF d_X2_take_167 rfl 1 rfl ?_
    refine g_iload_n hF d_X2_take_168 rfl 0 rfl ?_
    refine g_callV (As := [.int (atv 32100 (σ 19) a1)]) (rest := []) hF (fun l D cy => kt_X2_index a r w28 l D cy) (Nat.le_of_ble_eq_true rfl) mV_X2_index m_1246 (recv_ob obC_7) rfl rfl (Nat.le_of_ble_eq_true rfl) d_X2_take_169 (qV (fun s169 w29 => ?_)) (fun _ _ _ h => h.elim)
    refine g_goto hF 250 d_X2_take_172 (by decide) ?_
    exact g_vret hF rfl d_X2_take_250 ⟨rfl, rfl, rfl, w29⟩
  have w30 := w27.2 q23_9
  refine (Decidable.em ((atv 32100 (σ 18) a1).toInt = 11)).elim (fun q23_10 => ?_) (fun q23_10 => ?_)
  · have w31 := w30.1 q23_10
    refine g_tableIn (off := 152) hF 175 d_X2_take_23 q23_10 (by decide) (by decide) (by decide +kernel) (by decide) ?_
    refine g_aload_n hF d_X2_take_175 rfl 1 rfl ?_
    refine g_iload_n hF d_X2_take_176 rfl 0 rfl ?_
    refine g_callV (As := [.int (atv 32100 (σ 19) a1)]) (rest := []) hF (fun l D cy => kt_X2_unary a r w31 l D cy) (Nat.le_of_ble_eq_true rfl) mV_X2_unary m_1254 (recv_ob obC_7) rfl rfl (Nat.le_of_ble_eq_true rfl) d_X2_take_177 (qV (fun s177 w32 => ?_)) (fun _ _ _ h => h.elim)
    refine g_goto hF 250 d_X2_take_180 (by decide) ?_
    exact g_vret hF rfl d_X2_take_250 ⟨rfl, rfl, rfl, w32⟩
  have w33 := w30.2 q23_10
  refine (Decidable.em ((atv 32100 (σ 18) a1).toInt = 12)).elim (fun q23_11 => ?_) (fun q23_11 => ?_)
  · have w34 := w33.1 q23_11
    refine g_tableIn (off := 160) hF 183 d_X2_take_23 q23_11 (by decide) (by decide) (by decide +kernel) (by decide) ?_
    refine g_aload_n hF d_X2_take_183 rfl 1 rfl ?_
    refine g_iload_n hF d_X2_take_184 rfl 0 rfl ?_
    refine g_aload_n hF d_X2_take_185 rfl 1 rfl ?_
    refine g_get (v := .ref (r 3)) hF 0 obC_7 (by decide) m_456 rfl d_X2_take_186 ?_
    refine g_getN (v := .ref (r 20)) hF 7 obC_3 (by decide) nm_110 rfl d_X2_take_189 ?_
    refine g_iload_n hF d_X2_take_192 rfl 2 rfl ?_
    refine g_callSN (As := [.ref (r 20), .int a1]) (rest := [.int (atv 32100 (σ 19) a1), .ref (r 7)]) hF (c_atv a r σ arC_20 (by decide) a1) (Nat.le_of_ble_eq_true rfl) mS_X12_at nm_1058 rfl rfl (Nat.le_of_ble_eq_true rfl) d_X2_take_193 (kQ ?_)
    refine g_top (v := (atv 32100 (σ 20) a1)) rfl ?_
    refine g_callV (As := [.int (atv 32100 (σ 19) a1), .int (atv 32100 (σ 20) a1)]) (rest := []) hF (fun l D cy => kt_X2_cast a r w34 l D cy) (Nat.le_of_ble_eq_true rfl) mV_X2_cast m_1269 (recv_ob obC_7) rfl rfl (Nat.le_of_ble_eq_true rfl) d_X2_take_196 (qV (fun s196 w35 => ?_)) (fun _ _ _ h => h.elim)
    refine g_goto hF 250 d_X2_take_199 (by decide) ?_
    exact g_vret hF rfl d_X2_take_250 ⟨rfl, rfl, rfl, w35⟩
  have w36 := w33.2 q23_11
  refine (Decidable.em ((atv 32100 (σ 18) a1).toInt = 13)).elim (fun q23_12 => ?_) (fun q23_12 => ?_)
  · have w37 := w36.1 q23_12
    refine g_tableIn (off := 179) hF 202 d_X2_take_23 q23_12 (by decide) (by decide) (by decide +kernel) (by decide) ?_
    refine g_aload_n hF d_X2_take_202 rfl 1 rfl ?_
    refine g_aload_n hF d_X2_take_203 rfl 1 rfl ?_
    refine g_callV (As := []) (rest := [.ref (r 7)]) hF (fun l D cy => kt_X2_top a r w37 l D cy) (Nat.le_of_ble_eq_true rfl) mV_X2_top m_1160 (recv_ob obC_7) rfl rfl (Nat.le_of_ble_eq_true rfl) d_X2_take_204 (qAr (fun u204 hz204 w38 => ?_)) (fun _ _ _ h => h.elim)
    refine g_iload_n hF d_X2_take_207 rfl 0 rfl ?_
    refine g_iconst hF (v := 1) d_X2_take_208 (by decide) ?_
    refine g_callV (As := [.ref (r u204), .int (atv 32100 (σ 19) a1), .int 1]) (rest := []) hF (fun l D cy => kt_X2_step a r hz204 (Or.inr rfl) w38 l D cy) (Nat.le_of_ble_eq_true rfl) mV_X2_step m_1258 (recv_ob obC_7) rfl rfl (Nat.le_of_ble_eq_true rfl) d_X2_take_209 (qV (fun s209 w39 => ?_)) (fun _ _ _ h => h.elim)
    refine g_goto hF 250 d_X2_take_212 (by decide) ?_
    exact g_vret hF rfl d_X2_take_250 ⟨rfl, rfl, rfl, w39⟩
  have w40 := w36.2 q23_12
  refine (Decidable.em ((atv 32100 (σ 18) a1).toInt = 14)).elim (fun q23_13 => ?_) (fun q23_13 => ?_)
  · have w41 := w40.1 q23_13
    refine g_tableIn (off := 192) hF 215 d_X2_take_23 q23_13 (by decide) (by decide) (by decide +kernel) (by decide) ?_
    refine g_aload_n hF d_X2_take_215 rfl 1 rfl ?_
    refine g_callV (As := []) (rest := []) hF (fun l D cy => kt_X2_top a r w41 l D cy) (Nat.le_of_ble_eq_true rfl) mV_X2_top m_1160 (recv_ob obC_7) rfl rfl (Nat.le_of_ble_eq_true rfl) d_X2_take_216 (qAr (fun u216 hz216 w42 => ?_)) (fun _ _ _ h => h.elim)
    refine g_aload_n hF d_X2_take_219 rfl 1 rfl ?_
    refine g_aload_n hF d_X2_take_220 rfl 1 rfl ?_
    refine g_aload_n hF d_X2_take_221 rfl 1 rfl ?_
    refine g_callV (As := []) (rest := [.ref (r 7), .ref (r 7), .ref (r u216)]) hF (fun l D cy => kt_X2_top a r w42 l D cy) (Nat.le_of_ble_eq_true rfl) mV_X2_top m_1160 (recv_ob obC_7) rfl rfl (Nat.le_of_ble_eq_true rfl) d_X2_take_222 (qAr (fun u222 hz222 w43 => ?_)) (fun _ _ _ h => h.elim)
    refine g_callV (As := [.ref (r u222)]) (rest := [.ref (r 7), .ref (r u216)]) hF (fun l D cy => kt_X2_loaded a r hz222 w43 l D cy) (Nat.le_of_ble_eq_true rfl) mV_X2_loaded m_1164 (recv_ob obC_7) rfl rfl (Nat.le_of_ble_eq_true rfl) d_X2_take_225 (qA (fun u225 s225 hz225 w44 => ?_)) (fun _ _ _ h => h.elim)
    refine g_iconst hF (v := (-1)) d_X2_take_228 (by decide) ?_
    refine g_callV (As := [.ref (r u225), .int (-1)]) (rest := [.ref (r u216)]) hF (fun l D cy => kt_X2_unless a r hz225 w44 l D cy) (Nat.le_of_ble_eq_true rfl) mV_X2_unless m_1273 (recv_ob obC_7) rfl rfl (Nat.le_of_ble_eq_true rfl) d_X2_take_229 (qI (fun v229 s229 w45 => ?_)) (fun _ _ _ h => h.elim)
    refine g_putN (v := v229) hF 10 (obC_op hz216) (by decide) nm_424 rfl rfl (rf_op hz216) d_X2_take_232 ?_
    obtain ⟨s45n, es45n⟩ : ∃ z, z = upC s229 u216 10 v229 := ⟨_, rfl⟩
    rw [← es45n]
    have w47 := w45 s45n es45n
    refine g_goto hF 250 d_X2_take_235 (by decide) ?_
    exact g_vret hF rfl d_X2_take_250 ⟨rfl, rfl, rfl, w47⟩
  have w48 := w40.2 q23_13
  refine (Decidable.em ((atv 32100 (σ 18) a1).toInt = 15)).elim (fun q23_14 => ?_) (fun q23_14 => ?_)
  · have w49 := w48.1 q23_14
    refine g_tableIn (off := 215) hF 238 d_X2_take_23 q23_14 (by decide) (by decide) (by decide +kernel) (by decide) ?_
    refine g_aload_n hF d_X2_take_238 rfl 1 rfl ?_
    refine g_callV (As := []) (rest := []) hF (fun l D cy => kt_X2_colon a r w49 l D cy) (Nat.le_of_ble_eq_true rfl) mV_X2_colon m_1277 (recv_ob obC_7) rfl rfl (Nat.le_of_ble_eq_true rfl) d_X2_take_239 (qV (fun s239 w50 => ?_)) (fun _ _ _ h => h.elim)
    refine g_goto hF 250 d_X2_take_242 (by decide) ?_
    exact g_vret hF rfl d_X2_take_250 ⟨rfl, rfl, rfl, w50⟩
  have w51 := w48.2 q23_14
  refine g_tableOut hF 245 d_X2_take_23 rfl (tbo_1_15 q23_0 q23_1 q23_2 q23_3 q23_4 q23_5 q23_6 q23_7 q23_8 q23_9 q23_10 q23_11 q23_12 q23_13 q23_14) (by decide) ?_
  refine g_aload_n hF d_X2_take_245 rfl 1 rfl ?_
  refine g_iload_n hF d_X2_take_246 rfl 0 rfl ?_
  refine g_callV (As := [.int (atv 32100 (σ 19) a1)]) (rest := []) hF (fun l D cy => kt_X2_choice a r w51 l D cy) (Nat.le_of_ble_eq_true rfl) mV_X2_choice m_1281 (recv_ob obC_7) rfl rfl (Nat.le_of_ble_eq_true rfl) d_X2_take_247 (qV (fun s247 w52 => ?_)) (fun _ _ _ h => h.elim)
  exact g_vret hF rfl d_X2_take_250 ⟨rfl, rfl, rfl, w52⟩
