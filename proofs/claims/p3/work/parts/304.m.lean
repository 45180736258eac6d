set_option maxHeartbeats 4000000 in
set_option maxRecDepth 100000 in
theorem c_X7_finish (a : Nat → Nat) (g : Nat → Nat → Int32) (r : Nat → Nat) (σ0 : St) (i0 : Inv σ0) (l : Launch) (D : va_G) (cy : Nat → ClassId) : Ct l D cy SC r (EC a g) y_X7_finish (Cond.code y_X7_finish b_X7_finish 1 none) 2 [.ref (r 9)] σ0 Z0 [] (QV (fun σ9 => (Inv σ9 ∧ Keep [(9, 5)] [24] σ0 σ9))) QF := by
  refine Ct_of (EC_ok a g) (by decide) (Nat.le_of_ble_eq_true rfl) (by decide) (fun X hnn hF => ?_)
  show G SC r X σ0 Z0 [] [(0, .ref (r 9))] [] 0
  have kp : Keep [(9, 5)] [24] σ0 σ0 := keep_rf
  refine g_aload_n hF d_X7_finish_0 rfl 0 rfl ?_
  refine g_dup hF d_X7_finish_1 rfl ?_
  refine g_get (v := .int (σ0 9 5)) hF 5 obC_9 (by decide) m_558 rfl d_X7_finish_2 ?_
  refine g_iconst hF (v := 1) d_X7_finish_5 (by decide) ?_
  refine g_isub hF d_X7_finish_6 ?_
  refine g_put (v := ((σ0 9 5) - 1)) hF 5 obC_9 (by decide) m_558 rfl rfl rfl d_X7_finish_7 ?_
  have kp : Keep [(9, 5)] [24] σ0 (upC σ0 9 5 ((σ0 9 5) - 1)) := keep_f kp (by decide)
  refine g_aload_n hF d_X7_finish_10 rfl 0 rfl ?_
  refine g_get (v := .ref (r 4)) hF 2 obC_9 (by decide) m_555 rfl d_X7_finish_11 ?_
  refine g_aload_n hF d_X7_finish_14 rfl 0 rfl ?_
  refine g_get (v := .ref (r 51)) hF 8 obC_9 (by decide) m_561 rfl d_X7_finish_15 ?_
  refine g_aload_n hF d_X7_finish_18 rfl 0 rfl ?_
  refine g_get (v := .int ((σ0 9 5) - 1)) hF 5 obC_9 (by decide) m_558 rfl d_X7_finish_19 ?_
  refine g_callSN (As := [.ref (r 51), .int ((σ0 9 5) - 1)]) (rest := [.ref (r 4)]) hF (c_at a g r (upC σ0 9 5 ((σ0 9 5) - 1)) arC_51 (by decide) ((σ0 9 5) - 1)) (Nat.le_of_ble_eq_true rfl) mS_X12_at nm_1053 rfl rfl (Nat.le_of_ble_eq_true rfl) d_X7_finish_22 (k_rop (fun r1 hr1 => ?_))
  refine g_aload_n hF d_X7_finish_25 rfl 0 rfl ?_
  refine g_get (v := .ref (r 4)) hF 2 obC_9 (by decide) m_555 rfl d_X7_finish_26 ?_
  refine g_getN (v := .int (σ0 4 1)) hF 1 obC_4 (by decide) nm_154 rfl d_X7_finish_29 ?_
  have j3 : Inv (upC σ0 9 5 ((σ0 9 5) - 1)) := ⟨i0.1, i0.2.1, i0.2.2.1, i0.2.2.2.1, i0.2.2.2.2.1, i0.2.2.2.2.2.1, i0.2.2.2.2.2.2.1, i0.2.2.2.2.2.2.2.1, i0.2.2.2.2.2.2.2.2.1, i0.2.2.2.2.2.2.2.2.2.1, i0.2.2.2.2.2.2.2.2.2.2.1, i0.2.2.2.2.2.2.2.2.2.2.2.1, i0.2.2.2.2.2.2.2.2.2.2.2.2.1, i0.2.2.2.2.2.2.2.2.2.2.2.2.2.1, i0.2.2.2.2.2.2.2.2.2.2.2.2.2.2.1, i0.2.2.2.2.2.2.2.2.2.2.2.2.2.2.2.1, i0.2.2.2.2.2.2.2.2.2.2.2.2.2.2.2.2.1, i0.2.2.2.2.2.2.2.2.2.2.2.2.2.2.2.2.2.1, i0.2.2.2.2.2.2.2.2.2.2.2.2.2.2.2.2.2.2.1, i0.2.2.2.2.2.2.2.2.2.2.2.2.2.2.2.2.2.2.2⟩
  refine g_callVN (As := [.int r1, .int (σ0 4 1)]) (rest := []) hF (c_X0_aim a g r (upC σ0 9 5 ((σ0 9 5) - 1)) r1 (σ0 4 1) j3) (Nat.le_of_ble_eq_true rfl) mV_X0_aim nm_1318 (recv_ob obC_4) rfl rfl (Nat.le_of_ble_eq_true rfl) d_X7_finish_32 (k_v (fun σ2 ⟨iσ2, ik2⟩ => ?_))
  have kp : Keep [(9, 5)] [24] σ0 σ2 := keep_c kp ik2 (by decide) (by decide)
  exact g_vret hF rfl d_X7_finish_35 ⟨rfl, rfl, rfl, ⟨iσ2, kp⟩⟩
set_option maxHeartbeats 4000000 in
set_option maxRecDepth 100000 in
theorem c_X7_turn (a : Nat → Nat) (g : Nat → Nat → Int32) (r : Nat → Nat) (σ0 : St) (a1 : Int32) (i0 : Inv σ0) (l : Launch) (D : va_G) (cy : Nat → ClassId) : Ct l D cy SC r (EC a g) y_X7_turn (Cond.code y_X7_turn b_X7_turn 2 none) 1 [.ref (r 9), .int a1] σ0 Z0 [] (QV (fun σ9 => (Inv σ9 ∧ Keep [(4, 1)] [24] σ0 σ9))) QF := by
  refine Ct_of (EC_ok a g) (by decide) (Nat.le_of_ble_eq_true rfl) (by decide) (fun X hnn hF => ?_)
  show G SC r X σ0 Z0 [] [(0, .ref (r 9)), (1, .int a1)] [] 0
  have kp : Keep [(4, 1)] [24] σ0 σ0 := keep_rf
  refine g_aload_n hF d_X7_turn_0 rfl 0 rfl ?_
  refine g_get (v := .ref (r 4)) hF 2 obC_9 (by decide) m_555 rfl d_X7_turn_1 ?_
  refine g_bipush hF (v := 31) d_X7_turn_4 (by decide) ?_
  refine g_aload_n hF d_X7_turn_6 rfl 0 rfl ?_
  refine g_get (v := .ref (r 6)) hF 1 obC_9 (by decide) m_554 rfl d_X7_turn_7 ?_
  refine g_getN (v := .ref (r 2)) hF 0 obC_6 (by decide) nm_306 rfl d_X7_turn_10 ?_
  refine g_getN (v := .ref (r 16)) hF 8 obC_2 (by decide) nm_61 rfl d_X7_turn_13 ?_
  refine g_iload_n hF d_X7_turn_16 rfl 1 rfl ?_
  refine g_callSN (As := [.ref (r 16), .int a1]) (rest := [.int 31, .ref (r 4)]) hF (c_at a g r σ0 arC_16 (by decide) a1) (Nat.le_of_ble_eq_true rfl) mS_X12_at nm_1053 rfl rfl (Nat.le_of_ble_eq_true rfl) d_X7_turn_17 (k_rop (fun r1 hr1 => ?_))
  refine g_iconst hF (v := 0) d_X7_turn_20 (by decide) ?_
  refine g_iconst hF (v := 0) d_X7_turn_21 (by decide) ?_
  refine g_callVN (As := [.int 31, .int r1, .int 0, .int 0]) (rest := []) hF (c_X0_emit a g r σ0 (31 : Int32) r1 (0 : Int32) (0 : Int32) i0) (Nat.le_of_ble_eq_true rfl) mV_X0_emit nm_1298 (recv_ob obC_4) rfl rfl (Nat.le_of_ble_eq_true rfl) d_X7_turn_22 (k_i (fun r2 σ2 ⟨iσ2, ik2⟩ => ?_))
  have kp : Keep [(4, 1)] [24] σ0 σ2 := keep_c kp ik2 (by decide) (by decide)
  refine g_pop hF d_X7_turn_25 rfl ?_
  exact g_vret hF rfl d_X7_turn_26 ⟨rfl, rfl, rfl, ⟨iσ2, kp⟩⟩
set_option maxHeartbeats 4000000 in
set_option maxRecDepth 100000 in
theorem c_X7_jumpBack (a : Nat → Nat) (g : Nat → Nat → Int32) (r : Nat → Nat) (σ0 : St) (a1 : Int32) (i0 : Inv σ0) (l : Launch) (D : va_G) (cy : Nat → ClassId) : Ct l D cy SC r (EC a g) y_X7_jumpBack (Cond.code y_X7_jumpBack b_X7_jumpBack 2 none) 1 [.ref (r 9), .int a1] σ0 Z0 [] (QV (fun σ9 => (Inv σ9 ∧ Keep [(4, 1)] [24] σ0 σ9))) QF := by
  refine Ct_of (EC_ok a g) (by decide) (Nat.le_of_ble_eq_true rfl) (by decide) (fun X hnn hF => ?_)
  show G SC r X σ0 Z0 [] [(0, .ref (r 9)), (1, .int a1)] [] 0
  have kp : Keep [(4, 1)] [24] σ0 σ0 := keep_rf
  refine g_aload_n hF d_X7_jumpBack_0 rfl 0 rfl ?_
  refine g_get (v := .ref (r 4)) hF 2 obC_9 (by decide) m_555 rfl d_X7_jumpBack_1 ?_
  refine g_bipush hF (v := 26) d_X7_jumpBack_4 (by decide) ?_
  refine g_iload_n hF d_X7_jumpBack_6 rfl 1 rfl ?_
  refine g_iconst hF (v := 0) d_X7_jumpBack_7 (by decide) ?_
  refine g_iconst hF (v := 0) d_X7_jumpBack_8 (by decide) ?_
  refine g_callVN (As := [.int 26, .int a1, .int 0, .int 0]) (rest := []) hF (c_X0_emit a g r σ0 (26 : Int32) a1 (0 : Int32) (0 : Int32) i0) (Nat.le_of_ble_eq_true rfl) mV_X0_emit nm_1298 (recv_ob obC_4) rfl rfl (Nat.le_of_ble_eq_true rfl) d_X7_jumpBack_9 (k_i (fun r1 σ1 ⟨iσ1, ik1⟩ => ?_))
  have kp : Keep [(4, 1)] [24] σ0 σ1 := keep_c kp ik1 (by decide) (by decide)
  refine g_pop hF d_X7_jumpBack_12 rfl ?_
  exact g_vret hF rfl d_X7_jumpBack_13 ⟨rfl, rfl, rfl, ⟨iσ1, kp⟩⟩
set_option maxHeartbeats 4000000 in
set_option maxRecDepth 100000 in
theorem c_X11_scopeStart (a : Nat → Nat) (g : Nat → Nat → Int32) (r : Nat → Nat) (σ0 : St) (i0 : Inv σ0) (l : Launch) (D : va_G) (cy : Nat → ClassId) : Ct l D cy SC r (EC a g) y_X11_scopeStart (Cond.code y_X11_scopeStart b_X11_scopeStart 1 (some .int)) 1 [.ref (r 6)] σ0 Z0 [] (QI (fun v9 σ9 => ((0 ≤ v9.toInt ∧ v9.toInt ≤ 100000) ∧ σ9 = σ0))) QF := by
  refine Ct_of (EC_ok a g) (by decide) (Nat.le_of_ble_eq_true rfl) (by decide) (fun X hnn hF => ?_)
  show G SC r X σ0 Z0 [] [(0, .ref (r 6))] [] 0
  refine g_aload_n hF d_X11_scopeStart_0 rfl 0 rfl ?_
  refine g_get (v := .ref (r 45)) hF 18 obC_6 (by decide) m_345 rfl d_X11_scopeStart_1 ?_
  refine g_aload_n hF d_X11_scopeStart_4 rfl 0 rfl ?_
  refine g_get (v := .int (σ0 6 17)) hF 17 obC_6 (by decide) m_344 rfl d_X11_scopeStart_5 ?_
  refine g_iconst hF (v := 1) d_X11_scopeStart_8 (by decide) ?_
  refine g_isub hF d_X11_scopeStart_9 ?_
  refine g_callSN (As := [.ref (r 45), .int ((σ0 6 17) - 1)]) (rest := []) hF (c_at a g r σ0 arC_45 (by decide) ((σ0 6 17) - 1)) (Nat.le_of_ble_eq_true rfl) mS_X12_at nm_1112 rfl rfl (Nat.le_of_ble_eq_true rfl) d_X11_scopeStart_10 (k_rop (fun r1 hr1 => ?_))
  have hq1 := hr1
  have hr1 : 0 ≤ r1.toInt ∧ r1.toInt ≤ 100000 := acr_at i0.2.2.2.2.2.2.2.2.2.2.2.2.2.2.2.2.1 (by decide) (by decide) (hr1.imp And.left (fun h => ⟨_, h.2⟩))
  exact g_iret hF rfl d_X11_scopeStart_13 ⟨rfl, rfl, r1, rfl, ⟨(by show 0 ≤ r1.toInt ∧ r1.toInt ≤ 100000; have e0 := s_rng r1; omega), rfl⟩⟩
set_option maxHeartbeats 4000000 in
set_option maxRecDepth 100000 in
theorem c_X1_checkSquare (a : Nat → Nat) (g : Nat → Nat → Int32) (r : Nat → Nat) (σ0 : St) (a1 : Int32) (i0 : Inv σ0) (z_a1 : a1 = 0 ∨ a1 = 1) (l : Launch) (D : va_G) (cy : Nat → ClassId) : Ct l D cy SC r (EC a g) y_X1_checkSquare (Cond.code y_X1_checkSquare b_X1_checkSquare 2 none) 1 [.ref (r 8), .int a1] σ0 Z0 [] (QV (fun σ9 => (Inv σ9 ∧ Keep [(6, 3), (6, 4)] [] σ0 σ9))) QF := by
  refine Ct_of (EC_ok a g) (by decide) (Nat.le_of_ble_eq_true rfl) (by decide) (fun X hnn hF => ?_)
  show G SC r X σ0 Z0 [] [(0, .ref (r 8)), (1, .int a1)] [] 0
  have kp : Keep [(6, 3), (6, 4)] [] σ0 σ0 := keep_rf
  refine g_aload_n hF d_X1_checkSquare_0 rfl 0 rfl ?_
  refine g_get (v := .int (σ0 8 6)) hF 6 obC_8 (by decide) m_497 rfl d_X1_checkSquare_1 ?_
  refine g_if_lt hF 42 d_X1_checkSquare_4 (by decide) rfl (fun c1_4 => ?_) (fun c1_4 => ?_)
  · -- taken at 4
    refine g_aload_n hF d_X1_checkSquare_42 rfl 0 rfl ?_
    refine g_get (v := .int (σ0 8 6)) hF 6 obC_8 (by decide) m_497 rfl d_X1_checkSquare_43 ?_
    refine g_if_lt hF 71 d_X1_checkSquare_46 (by decide) rfl (fun c2_46 => ?_) (fun c2_46 => ?_)
    · -- taken at 46
      exact g_vret hF rfl d_X1_checkSquare_71 ⟨rfl, rfl, rfl, ⟨i0, kp⟩⟩
    · -- not taken at 46
      refine g_aload_n hF d_X1_checkSquare_49 rfl 0 rfl ?_
      refine g_get (v := .int (σ0 8 7)) hF 7 obC_8 (by decide) m_498 rfl d_X1_checkSquare_50 ?_
      refine g_sipush hF (v := 4000) d_X1_checkSquare_53 (by decide) ?_
      refine g_icmp_le (yv := 4000) hF 71 d_X1_checkSquare_56 (by decide) rfl (by decide) (fun c3_56 => ?_) (fun c3_56 => ?_)
      · -- taken at 56
        exact g_vret hF rfl d_X1_checkSquare_71 ⟨rfl, rfl, rfl, ⟨i0, kp⟩⟩
      · -- not taken at 56
        refine g_aload_n hF d_X1_checkSquare_59 rfl 0 rfl ?_
        refine g_get (v := .ref (r 6)) hF 2 obC_8 (by decide) m_491 rfl d_X1_checkSquare_60 ?_
        refine g_iconst hF (v := 4) d_X1_checkSquare_63 (by decide) ?_
        refine g_aload_n hF d_X1_checkSquare_64 rfl 0 rfl ?_
        refine g_get (v := .int (σ0 8 6)) hF 6 obC_8 (by decide) m_497 rfl d_X1_checkSquare_65 ?_
        refine g_callVN (As := [.int 4, .int (σ0 8 6)]) (rest := []) hF (c_X11_fail a g r σ0 (4 : Int32) (σ0 8 6) i0) (Nat.le_of_ble_eq_true rfl) mV_X11_fail nm_1370 (recv_ob obC_6) rfl rfl (Nat.le_of_ble_eq_true rfl) d_X1_checkSquare_68 (k_v (fun σ4 ⟨iσ4, ik4⟩ => ?_))
        have kp : Keep [(6, 3), (6, 4)] [] σ0 σ4 := keep_c kp ik4 (by decide) (by decide)
        exact g_vret hF rfl d_X1_checkSquare_71 ⟨rfl, rfl, rfl, ⟨iσ4, kp⟩⟩
  · -- not taken at 4
    refine g_aload_n hF d_X1_checkSquare_7 rfl 0 rfl ?_
    refine g_get (v := .int (σ0 8 7)) hF 7 obC_8 (by decide) m_498 rfl d_X1_checkSquare_8 ?_
    refine g_iconst hF (v := (-1)) d_X1_checkSquare_11 (by decide) ?_
    refine g_icmp_ne (yv := -1) hF 22 d_X1_checkSquare_12 (by decide) rfl (by decide) (fun c5_12 => ?_) (fun c5_12 => ?_)
    · -- taken at 12
      refine g_aload_n hF d_X1_checkSquare_22 rfl 0 rfl ?_
      refine g_get (v := .int (σ0 8 7)) hF 7 obC_8 (by decide) m_498 rfl d_X1_checkSquare_23 ?_
      refine g_iconst hF (v := 1) d_X1_checkSquare_26 (by decide) ?_
      refine g_icmp_ge (yv := 1) hF 42 d_X1_checkSquare_27 (by decide) rfl (by decide) (fun c6_27 => ?_) (fun c6_27 => ?_)
      · -- taken at 27
        refine g_aload_n hF d_X1_checkSquare_42 rfl 0 rfl ?_
        refine g_get (v := .int (σ0 8 6)) hF 6 obC_8 (by decide) m_497 rfl d_X1_checkSquare_43 ?_
        refine g_if_lt hF 71 d_X1_checkSquare_46 (by decide) rfl (fun c7_46 => ?_) (fun c7_46 => ?_)
        · -- taken at 46
          exact g_vret hF rfl d_X1_checkSquare_71 ⟨rfl, rfl, rfl, ⟨i0, kp⟩⟩
        · -- not taken at 46
          refine g_aload_n hF d_X1_checkSquare_49 rfl 0 rfl ?_
          refine g_get (v := .int (σ0 8 7)) hF 7 obC_8 (by decide) m_498 rfl d_X1_checkSquare_50 ?_
          refine g_sipush hF (v := 4000) d_X1_checkSquare_53 (by decide) ?_
          refine g_icmp_le (yv := 4000) hF 71 d_X1_checkSquare_56 (by decide) rfl (by decide) (fun c8_56 => ?_) (fun c8_56 => ?_)
          · -- taken at 56
            exact g_vret hF rfl d_X1_checkSquare_71 ⟨rfl, rfl, rfl, ⟨i0, kp⟩⟩
          · -- not taken at 56
            refine g_aload_n hF d_X1_checkSquare_59 rfl 0 rfl ?_
            refine g_get (v := .ref (r 6)) hF 2 obC_8 (by decide) m_491 rfl d_X1_checkSquare_60 ?_
            refine g_iconst hF (v := 4) d_X1_checkSquare_63 (by decide) ?_
            refine g_aload_n hF d_X1_checkSquare_64 rfl 0 rfl ?_
            refine g_get (v := .int (σ0 8 6)) hF 6 obC_8 (by decide) m_497 rfl d_X1_checkSquare_65 ?_
            refine g_callVN (As := [.int 4, .int (σ0 8 6)]) (rest := []) hF (c_X11_fail a g r σ0 (4 : Int32) (σ0 8 6) i0) (Nat.le_of_ble_eq_true rfl) mV_X11_fail nm_1370 (recv_ob obC_6) rfl rfl (Nat.le_of_ble_eq_true rfl) d_X1_checkSquare_68 (k_v (fun σ9 ⟨iσ9, ik9⟩ => ?_))
            have kp : Keep [(6, 3), (6, 4)] [] σ0 σ9 := keep_c kp ik9 (by decide) (by decide)
            exact g_vret hF rfl d_X1_checkSquare_71 ⟨rfl, rfl, rfl, ⟨iσ9, kp⟩⟩
      · -- not taken at 27
        refine g_aload_n hF d_X1_checkSquare_30 rfl 0 rfl ?_
        refine g_get (v := .ref (r 6)) hF 2 obC_8 (by decide) m_491 rfl d_X1_checkSquare_31 ?_
        refine g_iconst hF (v := 2) d_X1_checkSquare_34 (by decide) ?_
        refine g_aload_n hF d_X1_checkSquare_35 rfl 0 rfl ?_
        refine g_get (v := .int (σ0 8 6)) hF 6 obC_8 (by decide) m_497 rfl d_X1_checkSquare_36 ?_
        refine g_callVN (As := [.int 2, .int (σ0 8 6)]) (rest := []) hF (c_X11_fail a g r σ0 (2 : Int32) (σ0 8 6) i0) (Nat.le_of_ble_eq_true rfl) mV_X11_fail nm_1370 (recv_ob obC_6) rfl rfl (Nat.le_of_ble_eq_true rfl) d_X1_checkSquare_39 (k_v (fun σ10 ⟨iσ10, ik10⟩ => ?_))
        have kp : Keep [(6, 3), (6, 4)] [] σ0 σ10 := keep_c kp ik10 (by decide) (by decide)
        refine g_aload_n hF d_X1_checkSquare_42 rfl 0 rfl ?_
        refine g_get (v := .int (σ10 8 6)) hF 6 obC_8 (by decide) m_497 rfl d_X1_checkSquare_43 ?_
        refine g_top (v := (σ0 8 6)) (ik10 8 6 rfl rfl rfl) ?_
        refine g_if_lt hF 71 d_X1_checkSquare_46 (by decide) rfl (fun c11_46 => ?_) (fun c11_46 => ?_)
        · -- taken at 46
          exact g_vret hF rfl d_X1_checkSquare_71 ⟨rfl, rfl, rfl, ⟨iσ10, kp⟩⟩
        · -- not taken at 46
          refine g_aload_n hF d_X1_checkSquare_49 rfl 0 rfl ?_
          refine g_get (v := .int (σ10 8 7)) hF 7 obC_8 (by decide) m_498 rfl d_X1_checkSquare_50 ?_
          refine g_top (v := (σ0 8 7)) (ik10 8 7 rfl rfl rfl) ?_
          refine g_sipush hF (v := 4000) d_X1_checkSquare_53 (by decide) ?_
          refine g_icmp_le (yv := 4000) hF 71 d_X1_checkSquare_56 (by decide) rfl (by decide) (fun c12_56 => ?_) (fun c12_56 => ?_)
          · -- taken at 56
            exact g_vret hF rfl d_X1_checkSquare_71 ⟨rfl, rfl, rfl, ⟨iσ10, kp⟩⟩
          · -- not taken at 56
            refine g_aload_n hF d_X1_checkSquare_59 rfl 0 rfl ?_
            refine g_get (v := .ref (r 6)) hF 2 obC_8 (by decide) m_491 rfl d_X1_checkSquare_60 ?_
            refine g_iconst hF (v := 4) d_X1_checkSquare_63 (by decide) ?_
            refine g_aload_n hF d_X1_checkSquare_64 rfl 0 rfl ?_
            refine g_get (v := .int (σ10 8 6)) hF 6 obC_8 (by decide) m_497 rfl d_X1_checkSquare_65 ?_
            refine g_top (v := (σ0 8 6)) (ik10 8 6 rfl rfl rfl) ?_
            refine g_callVN (As := [.int 4, .int (σ0 8 6)]) (rest := []) hF (c_X11_fail a g r σ10 (4 : Int32) (σ0 8 6) iσ10) (Nat.le_of_ble_eq_true rfl) mV_X11_fail nm_1370 (recv_ob obC_6) rfl rfl (Nat.le_of_ble_eq_true rfl) d_X1_checkSquare_68 (k_v (fun σ13 ⟨iσ13, ik13⟩ => ?_))
            have kp : Keep [(6, 3), (6, 4)] [] σ0 σ13 := keep_c kp ik13 (by decide) (by decide)
            exact g_vret hF rfl d_X1_checkSquare_71 ⟨rfl, rfl, rfl, ⟨iσ13, kp⟩⟩
    · -- not taken at 12
      refine g_iload_n hF d_X1_checkSquare_15 rfl 1 rfl ?_
      refine g_if_ne hF 42 d_X1_checkSquare_16 (by decide) rfl (fun c14_16 => ?_) (fun c14_16 => ?_)
      · -- taken at 16
        refine g_aload_n hF d_X1_checkSquare_42 rfl 0 rfl ?_
        refine g_get (v := .int (σ0 8 6)) hF 6 obC_8 (by decide) m_497 rfl d_X1_checkSquare_43 ?_
        refine g_if_lt hF 71 d_X1_checkSquare_46 (by decide) rfl (fun c15_46 => ?_) (fun c15_46 => ?_)
        · -- taken at 46
          exact g_vret hF rfl d_X1_checkSquare_71 ⟨rfl, rfl, rfl, ⟨i0, kp⟩⟩
        · -- not taken at 46
          refine g_aload_n hF d_X1_checkSquare_49 rfl 0 rfl ?_
          refine g_get (v := .int (σ0 8 7)) hF 7 obC_8 (by decide) m_498 rfl d_X1_checkSquare_50 ?_
          refine g_sipush hF (v := 4000) d_X1_checkSquare_53 (by decide) ?_
          refine g_icmp_le (yv := 4000) hF 71 d_X1_checkSquare_56 (by decide) rfl (by decide) (fun c16_56 => ?_) (fun c16_56 => ?_)
          · -- taken at 56
            exact g_vret hF rfl d_X1_checkSquare_71 ⟨rfl, rfl, rfl, ⟨i0, kp⟩⟩
          · -- not taken at 56
            refine g_aload_n hF d_X1_checkSquare_59 rfl 0 rfl ?_
            refine g_get (v := .ref (r 6)) hF 2 obC_8 (by decide) m_491 rfl d_X1_checkSquare_60 ?_
            refine g_iconst hF (v := 4) d_X1_checkSquare_63 (by decide) ?_
            refine g_aload_n hF d_X1_checkSquare_64 rfl 0 rfl ?_
            refine g_get (v := .int (σ0 8 6)) hF 6 obC_8 (by decide) m_497 rfl d_X1_checkSquare_65 ?_
            refine g_callVN (As := [.int 4, .int (σ0 8 6)]) (rest := []) hF (c_X11_fail a g r σ0 (4 : Int32) (σ0 8 6) i0) (Nat.le_of_ble_eq_true rfl) mV_X11_fail nm_1370 (recv_ob obC_6) rfl rfl (Nat.le_of_ble_eq_true rfl) d_X1_checkSquare_68 (k_v (fun σ17 ⟨iσ17, ik17⟩ => ?_))
            have kp : Keep [(6, 3), (6, 4)] [] σ0 σ17 := keep_c kp ik17 (by decide) (by decide)
            exact g_vret hF rfl d_X1_checkSquare_71 ⟨rfl, rfl, rfl, ⟨iσ17, kp⟩⟩
      · -- not taken at 16
        refine g_goto hF 30 d_X1_checkSquare_19 (by decide) ?_
        refine g_aload_n hF d_X1_checkSquare_30 rfl 0 rfl ?_
        refine g_get (v := .ref (r 6)) hF 2 obC_8 (by decide) m_491 rfl d_X1_checkSquare_31 ?_
        refine g_iconst hF (v := 2) d_X1_checkSquare_34 (by decide) ?_
        refine g_aload_n hF d_X1_checkSquare_35 rfl 0 rfl ?_
        refine g_get (v := .int (σ0 8 6)) hF 6 obC_8 (by decide) m_497 rfl d_X1_checkSquare_36 ?_
        refine g_callVN (As := [.int 2, .int (σ0 8 6)]) (rest := []) hF (c_X11_fail a g r σ0 (2 : Int32) (σ0 8 6) i0) (Nat.le_of_ble_eq_true rfl) mV_X11_fail nm_1370 (recv_ob obC_6) rfl rfl (Nat.le_of_ble_eq_true rfl) d_X1_checkSquare_39 (k_v (fun σ18 ⟨iσ18, ik18⟩ => ?_))
        have kp : Keep [(6, 3), (6, 4)] [] σ0 σ18 := keep_c kp ik18 (by decide) (by decide)
        refine g_aload_n hF d_X1_checkSquare_42 rfl 0 rfl ?_
        refine g_get (v := .int (σ18 8 6)) hF 6 obC_8 (by decide) m_497 rfl d_X1_checkSquare_43 ?_
        refine g_top (v := (σ0 8 6)) (ik18 8 6 rfl rfl rfl) ?_
        refine g_if_lt hF 71 d_X1_checkSquare_46 (by decide) rfl (fun c19_46 => ?_) (fun c19_46 => ?_)
        · -- taken at 46
          exact g_vret hF rfl d_X1_checkSquare_71 ⟨rfl, rfl, rfl, ⟨iσ18, kp⟩⟩
        · -- not taken at 46
          refine g_aload_n hF d_X1_checkSquare_49 rfl 0 rfl ?_
          refine g_get (v := .int (σ18 8 7)) hF 7 obC_8 (by decide) m_498 rfl d_X1_checkSquare_50 ?_
          refine g_top (v := (σ0 8 7)) (ik18 8 7 rfl rfl rfl) ?_
          refine g_sipush hF (v := 4000) d_X1_checkSquare_53 (by decide) ?_
          refine g_icmp_le (yv := 4000) hF 71 d_X1_checkSquare_56 (by decide) rfl (by decide) (fun c20_56 => ?_) (fun c20_56 => ?_)
          · -- taken at 56
            exact g_vret hF rfl d_X1_checkSquare_71 ⟨rfl, rfl, rfl, ⟨iσ18, kp⟩⟩
          · -- not taken at 56
            refine g_aload_n hF d_X1_checkSquare_59 rfl 0 rfl ?_
            refine g_get (v := .ref (r 6)) hF 2 obC_8 (by decide) m_491 rfl d_X1_checkSquare_60 ?_
            refine g_iconst hF (v := 4) d_X1_checkSquare_63 (by decide) ?_
            refine g_aload_n hF d_X1_checkSquare_64 rfl 0 rfl ?_
            refine g_get (v := .int (σ18 8 6)) hF 6 obC_8 (by decide) m_497 rfl d_X1_checkSquare_65 ?_
            refine g_top (v := (σ0 8 6)) (ik18 8 6 rfl rfl rfl) ?_
            refine g_callVN (As := [.int 4, .int (σ0 8 6)]) (rest := []) hF (c_X11_fail a g r σ18 (4 : Int32) (σ0 8 6) iσ18) (Nat.le_of_ble_eq_true rfl) mV_X11_fail nm_1370 (recv_ob obC_6) rfl rfl (Nat.le_of_ble_eq_true rfl) d_X1_checkSquare_68 (k_v (fun σ21 ⟨iσ21, ik21⟩ => ?_))
            have kp : Keep [(6, 3), (6, 4)] [] σ0 σ21 := keep_c kp ik21 (by decide) (by decide)
            exact g_vret hF rfl d_X1_checkSquare_71 ⟨rfl, rfl, rfl, ⟨iσ21, kp⟩⟩
set_option maxHeartbeats 4000000 in
set_option maxRecDepth 100000 in
theorem c_X11_declareLocal (a : Nat → Nat) (g : Nat → Nat → Int32) (r : Nat → Nat) (σ0 : St) (a1 : Int32) (a2 : Int32) (a3 : Int32) (hpre : (σ0 6 10).toInt < 90000) (i0 : Inv σ0) (l : Launch) (D : va_G) (cy : Nat → ClassId) : Ct l D cy SC r (EC a g) y_X11_declareLocal (Cond.code y_X11_declareLocal b_X11_declareLocal 5 none) 1 [.ref (r 6), .int a1, .int a2, .int a3] σ0 Z0 [] (QV (fun σ9 => (((σ9 6 10).toInt = (σ0 6 10).toInt + 1) ∧ Inv σ9 ∧ Keep [(6, 10), (6, 15)] [40, 41, 42, 43, 44] σ0 σ9))) QF := by
  refine Ct_of (EC_ok a g) (by decide) (Nat.le_of_ble_eq_true rfl) (by decide) (fun X hnn hF => ?_)
  show G SC r X σ0 Z0 [] [(0, .ref (r 6)), (1, .int a1), (2, .int a2), (3, .int a3)] [] 0
  have kp : Keep [(6, 10), (6, 15)] [40, 41, 42, 43, 44] σ0 σ0 := keep_rf
  refine g_aload_n hF d_X11_declareLocal_0 rfl 0 rfl ?_
  refine g_get (v := .int (σ0 6 10)) hF 10 obC_6 (by decide) m_331 rfl d_X11_declareLocal_1 ?_
  refine g_istore hF [(4, .int (σ0 6 10)), (0, .ref (r 6)), (1, .int a1), (2, .int a2), (3, .int a3)] d_X11_declareLocal_4 hnn (by decide) rfl ?_
  refine g_aload_n hF d_X11_declareLocal_6 rfl 1 rfl ?_
  refine g_get (v := .ref (r 40)) hF 11 obC_6 (by decide) m_333 rfl d_X11_declareLocal_7 ?_
  refine g_iload hF d_X11_declareLocal_10 0 rfl ?_
  refine g_iload_n hF d_X11_declareLocal_12 rfl 2 rfl ?_
  refine g_callSN (As := [.ref (r 40), .int (σ0 6 10), .int a1]) (rest := []) hF (c_set a g r σ0 arC_40 (by decide) (σ0 6 10) a1) (Nat.le_of_ble_eq_true rfl) mS_X12_set nm_1151 rfl rfl (Nat.le_of_ble_eq_true rfl) d_X11_declareLocal_13 (k_v (fun σ1 ⟨g1, eσ1, hg1⟩ => ?_))
  subst eσ1
  have kp : Keep [(6, 10), (6, 15)] [40, 41, 42, 43, 44] σ0 (upF σ0 40 g1) := keep_F kp (by decide)
  refine g_aload_n hF d_X11_declareLocal_16 rfl 1 rfl ?_
  refine g_get (v := .ref (r 41)) hF 12 obC_6 (by decide) m_334 rfl d_X11_declareLocal_17 ?_
  refine g_iload hF d_X11_declareLocal_20 0 rfl ?_
  refine g_iload_n hF d_X11_declareLocal_22 rfl 3 rfl ?_
  refine g_callSN (As := [.ref (r 41), .int (σ0 6 10), .int a2]) (rest := []) hF (c_set a g r (upF σ0 40 g1) arC_41 (by decide) (σ0 6 10) a2) (Nat.le_of_ble_eq_true rfl) mS_X12_set nm_1151 rfl rfl (Nat.le_of_ble_eq_true rfl) d_X11_declareLocal_23 (k_v (fun σ2 ⟨g2, eσ2, hg2⟩ => ?_))
  subst eσ2
  have kp : Keep [(6, 10), (6, 15)] [40, 41, 42, 43, 44] σ0 (upF (upF σ0 40 g1) 41 g2) := keep_F kp (by decide)
  refine g_aload_n hF d_X11_declareLocal_26 rfl 1 rfl ?_
  refine g_get (v := .ref (r 42)) hF 13 obC_6 (by decide) m_336 rfl d_X11_declareLocal_27 ?_
  refine g_iload hF d_X11_declareLocal_30 0 rfl ?_
  refine g_iload_n hF d_X11_declareLocal_32 rfl 4 rfl ?_
  refine g_callSN (As := [.ref (r 42), .int (σ0 6 10), .int a3]) (rest := []) hF (c_set a g r (upF (upF σ0 40 g1) 41 g2) arC_42 (by decide) (σ0 6 10) a3) (Nat.le_of_ble_eq_true rfl) mS_X12_set nm_1151 rfl rfl (Nat.le_of_ble_eq_true rfl) d_X11_declareLocal_33 (k_v (fun σ3 ⟨g3, eσ3, hg3⟩ => ?_))
  subst eσ3
  have kp : Keep [(6, 10), (6, 15)] [40, 41, 42, 43, 44] σ0 (upF (upF (upF σ0 40 g1) 41 g2) 42 g3) := keep_F kp (by decide)
  refine g_aload_n hF d_X11_declareLocal_36 rfl 1 rfl ?_
  refine g_get (v := .ref (r 43)) hF 14 obC_6 (by decide) m_339 rfl d_X11_declareLocal_37 ?_
  refine g_iload hF d_X11_declareLocal_40 0 rfl ?_
  refine g_iload_n hF d_X11_declareLocal_42 rfl 4 rfl ?_
  refine g_if_ge hF 50 d_X11_declareLocal_43 (by decide) rfl (fun c4_43 => ?_) (fun c4_43 => ?_)
  · -- taken at 43
    refine g_iconst hF (v := 1) d_X11_declareLocal_50 (by decide) ?_
    refine g_callSN (As := [.ref (r 43), .int (σ0 6 10), .int 1]) (rest := []) hF (c_set a g r (upF (upF (upF σ0 40 g1) 41 g2) 42 g3) arC_43 (by decide) (σ0 6 10) (1 : Int32)) (Nat.le_of_ble_eq_true rfl) mS_X12_set nm_1151 rfl rfl (Nat.le_of_ble_eq_true rfl) d_X11_declareLocal_51 (k_v (fun σ5 ⟨g5, eσ5, hg5⟩ => ?_))
    subst eσ5
    have kp : Keep [(6, 10), (6, 15)] [40, 41, 42, 43, 44] σ0 (upF (upF (upF (upF σ0 40 g1) 41 g2) 42 g3) 43 g5) := keep_F kp (by decide)
    refine g_aload_n hF d_X11_declareLocal_54 rfl 1 rfl ?_
    refine g_get (v := .ref (r 44)) hF 16 obC_6 (by decide) m_343 rfl d_X11_declareLocal_55 ?_
    refine g_aload_n hF d_X11_declareLocal_58 rfl 1 rfl ?_
    refine g_get (v := .int (σ0 6 15)) hF 15 obC_6 (by decide) m_342 rfl d_X11_declareLocal_59 ?_
    refine g_iload hF d_X11_declareLocal_62 0 rfl ?_
    refine g_callSN (As := [.ref (r 44), .int (σ0 6 15), .int (σ0 6 10)]) (rest := []) hF (c_set a g r (upF (upF (upF (upF σ0 40 g1) 41 g2) 42 g3) 43 g5) arC_44 (by decide) (σ0 6 15) (σ0 6 10)) (Nat.le_of_ble_eq_true rfl) mS_X12_set nm_1151 rfl rfl (Nat.le_of_ble_eq_true rfl) d_X11_declareLocal_64 (k_v (fun σ6 ⟨g6, eσ6, hg6⟩ => ?_))
    subst eσ6
    have kp : Keep [(6, 10), (6, 15)] [40, 41, 42, 43, 44] σ0 (upF (upF (upF (upF (upF σ0 40 g1) 41 g2) 42 g3) 43 g5) 44 g6) := keep_F kp (by decide)
    refine g_aload_n hF d_X11_declareLocal_67 rfl 1 rfl ?_
    refine g_dup hF d_X11_declareLocal_68 rfl ?_
    refine g_get (v := .int (σ0 6 10)) hF 10 obC_6 (by decide) m_331 rfl d_X11_declareLocal_69 ?_
    refine g_iconst hF (v := 1) d_X11_declareLocal_72 (by decide) ?_
    refine g_iadd hF d_X11_declareLocal_73 ?_
    refine g_put (v := ((σ0 6 10) + 1)) hF 10 obC_6 (by decide) m_331 rfl rfl rfl d_X11_declareLocal_74 ?_
    have kp : Keep [(6, 10), (6, 15)] [40, 41, 42, 43, 44] σ0 (upC (upF (upF (upF (upF (upF σ0 40 g1) 41 g2) 42 g3) 43 g5) 44 g6) 6 10 ((σ0 6 10) + 1)) := keep_f kp (by decide)
    have p7 : 0 ≤ ((σ0 6 10) + 1).toInt ∧ ((σ0 6 10) + 1).toInt ≤ 100000 := (by have e0 := s_rng (σ0 6 10); have e1 := i0.2.2.2.2.2.1; have e2 : (1 : Int32).toInt = 1 := (by decide); obtain ⟨k3, e3⟩ := s_add (σ0 6 10) (1 : Int32); have e3a := s_rng ((σ0 6 10) + 1); omega)
    refine g_aload_n hF d_X11_declareLocal_77 rfl 1 rfl ?_
    refine g_dup hF d_X11_declareLocal_78 rfl ?_
    refine g_get (v := .int (σ0 6 15)) hF 15 obC_6 (by decide) m_342 rfl d_X11_declareLocal_79 ?_
    refine g_iconst hF (v := 1) d_X11_declareLocal_82 (by decide) ?_
    refine g_iadd hF d_X11_declareLocal_83 ?_
    refine g_put (v := ((σ0 6 15) + 1)) hF 15 obC_6 (by decide) m_342 rfl rfl rfl d_X11_declareLocal_84 ?_
    have kp : Keep [(6, 10), (6, 15)] [40, 41, 42, 43, 44] σ0 (upC (upC (upF (upF (upF (upF (upF σ0 40 g1) 41 g2) 42 g3) 43 g5) 44 g6) 6 10 ((σ0 6 10) + 1)) 6 15 ((σ0 6 15) + 1)) := keep_f kp (by decide)
    have p8 : 0 ≤ ((σ0 6 15) + 1).toInt ∧ ((σ0 6 15) + 1).toInt ≤ 100000 := (by have e0 := s_rng (σ0 6 15); have e1 := i0.2.2.2.2.2.2.1; have e2 := i0.2.2.2.2.2.2.2.2.2.2.2.2.2.2.2.2.2.2.1.1; have e3 : (1 : Int32).toInt = 1 := (by decide); obtain ⟨k4, e4⟩ := s_add (σ0 6 15) (1 : Int32); have e4a := s_rng ((σ0 6 15) + 1); omega)
    have j9 : Inv (upC (upC (upF (upF (upF (upF (upF σ0 40 g1) 41 g2) 42 g3) 43 g5) 44 g6) 6 10 ((σ0 6 10) + 1)) 6 15 ((σ0 6 15) + 1)) := ⟨i0.1, i0.2.1, i0.2.2.1, i0.2.2.2.1, i0.2.2.2.2.1, p7, p8, i0.2.2.2.2.2.2.2.1, i0.2.2.2.2.2.2.2.2.1, i0.2.2.2.2.2.2.2.2.2.1, i0.2.2.2.2.2.2.2.2.2.2.1, i0.2.2.2.2.2.2.2.2.2.2.2.1, i0.2.2.2.2.2.2.2.2.2.2.2.2.1, i0.2.2.2.2.2.2.2.2.2.2.2.2.2.1, i0.2.2.2.2.2.2.2.2.2.2.2.2.2.2.1, i0.2.2.2.2.2.2.2.2.2.2.2.2.2.2.2.1, i0.2.2.2.2.2.2.2.2.2.2.2.2.2.2.2.2.1, i0.2.2.2.2.2.2.2.2.2.2.2.2.2.2.2.2.2.1, ⟨(by show ((σ0 6 15) + 1).toInt ≤ ((σ0 6 10) + 1).toInt; have hb1 : (σ0 6 15).toInt ≤ (σ0 6 10).toInt := i0.2.2.2.2.2.2.2.2.2.2.2.2.2.2.2.2.2.2.1.1; have e0 := s_rng (σ0 6 10); have e1 := i0.2.2.2.2.2.1; have e2 : (1 : Int32).toInt = 1 := (by decide); obtain ⟨k3, e3⟩ := s_add (σ0 6 10) (1 : Int32); have e3a := s_rng ((σ0 6 10) + 1); have e5 := s_rng (σ0 6 15); have e6 := i0.2.2.2.2.2.2.1; have e7 := i0.2.2.2.2.2.2.2.2.2.2.2.2.2.2.2.2.2.2.1.1; obtain ⟨k8, e8⟩ := s_add (σ0 6 15) (1 : Int32); have e8a := s_rng ((σ0 6 15) + 1); have e10 := s_rng (σ0 6 17); omega), (fun z hz1 hz2 => by have hz2 : (z : Int) < (σ0 6 17).toInt := hz2; have hb1 : (σ0 6 15).toInt ≤ (σ0 6 10).toInt := i0.2.2.2.2.2.2.2.2.2.2.2.2.2.2.2.2.2.2.1.1; have hb2 : (z : Int) < (σ0 6 17).toInt → (σ0 45 z).toInt ≤ (σ0 6 10).toInt := i0.2.2.2.2.2.2.2.2.2.2.2.2.2.2.2.2.2.2.1.2 z hz1; have e0 := s_rng (σ0 6 10); have e1 := i0.2.2.2.2.2.1; have e2 : (1 : Int32).toInt = 1 := (by decide); obtain ⟨k3, e3⟩ := s_add (σ0 6 10) (1 : Int32); have e3a := s_rng ((σ0 6 10) + 1); have e5 := s_rng (σ0 6 15); have e6 := i0.2.2.2.2.2.2.1; have e7 := i0.2.2.2.2.2.2.2.2.2.2.2.2.2.2.2.2.2.2.1.1; obtain ⟨k8, e8⟩ := s_add (σ0 6 15) (1 : Int32); have e8a := s_rng ((σ0 6 15) + 1); have e10 := s_rng (σ0 6 17); show (σ0 45 z).toInt ≤ ((σ0 6 10) + 1).toInt; omega)⟩, i0.2.2.2.2.2.2.2.2.2.2.2.2.2.2.2.2.2.2.2⟩
    exact g_vret hF rfl d_X11_declareLocal_87 ⟨rfl, rfl, rfl, ⟨(by show ((σ0 6 10) + 1).toInt = (σ0 6 10).toInt + 1; have e0 := s_rng (σ0 6 10); have e1 := i0.2.2.2.2.2.1; have e2 : (1 : Int32).toInt = 1 := (by decide); obtain ⟨k3, e3⟩ := s_add (σ0 6 10) (1 : Int32); have e3a := s_rng ((σ0 6 10) + 1); omega), j9, kp⟩⟩
  · -- not taken at 43
    refine g_iconst hF (v := 0) d_X11_declareLocal_46 (by decide) ?_
    refine g_goto hF 51 d_X11_declareLocal_47 (by decide) ?_
    refine g_callSN (As := [.ref (r 43), .int (σ0 6 10), .int 0]) (rest := []) hF (c_set a g r (upF (upF (upF σ0 40 g1) 41 g2) 42 g3) arC_43 (by decide) (σ0 6 10) (0 : Int32)) (Nat.le_of_ble_eq_true rfl) mS_X12_set nm_1151 rfl rfl (Nat.le_of_ble_eq_true rfl) d_X11_declareLocal_51 (k_v (fun σ10 ⟨g10, eσ10, hg10⟩ => ?_))
    subst eσ10
    have kp : Keep [(6, 10), (6, 15)] [40, 41, 42, 43, 44] σ0 (upF (upF (upF (upF σ0 40 g1) 41 g2) 42 g3) 43 g10) := keep_F kp (by decide)
    refine g_aload_n hF d_X11_declareLocal_54 rfl 1 rfl ?_
    refine g_get (v := .ref (r 44)) hF 16 obC_6 (by decide) m_343 rfl d_X11_declareLocal_55 ?_
    refine g_aload_n hF d_X11_declareLocal_58 rfl 1 rfl ?_
    refine g_get (v := .int (σ0 6 15)) hF 15 obC_6 (by decide) m_342 rfl d_X11_declareLocal_59 ?_
    refine g_iload hF d_X11_declareLocal_62 0 rfl ?_
    refine g_callSN (As := [.ref (r 44), .int (σ0 6 15), .int (σ0 6 10)]) (rest := []) hF (c_set a g r (upF (upF (upF (upF σ0 40 g1) 41 g2) 42 g3) 43 g10) arC_44 (by decide) (σ0 6 15) (σ0 6 10)) (Nat.le_of_ble_eq_true rfl) mS_X12_set nm_1151 rfl rfl (Nat.le_of_ble_eq_true rfl) d_X11_declareLocal_64 (k_v (fun σ11 ⟨g11, eσ11, hg11⟩ => ?_))
    subst eσ11
    have kp : Keep [(6, 10), (6, 15)] [40, 41, 42, 43, 44] σ0 (upF (upF (upF (upF (upF σ0 40 g1) 41 g2) 42 g3) 43 g10) 44 g11) := keep_F kp (by decide)
    refine g_aload_n hF d_X11_declareLocal_67 rfl 1 rfl ?_
    refine g_dup hF d_X11_declareLocal_68 rfl ?_
    refine g_get (v := .int (σ0 6 10)) hF 10 obC_6 (by decide) m_331 rfl d_X11_declareLocal_69 ?_
    refine g_iconst hF (v := 1) d_X11_declareLocal_72 (by decide) ?_
    refine g_iadd hF d_X11_declareLocal_73 ?_
    refine g_put (v := ((σ0 6 10) + 1)) hF 10 obC_6 (by decide) m_331 rfl rfl rfl d_X11_declareLocal_74 ?_
    have kp : Keep [(6, 10), (6, 15)] [40, 41, 42, 43, 44] σ0 (upC (upF (upF (upF (upF (upF σ0 40 g1) 41 g2) 42 g3) 43 g10) 44 g11) 6 10 ((σ0 6 10) + 1)) := keep_f kp (by decide)
    have p12 : 0 ≤ ((σ0 6 10) + 1).toInt ∧ ((σ0 6 10) + 1).toInt ≤ 100000 := (by have e0 := s_rng (σ0 6 10); have e1 := i0.2.2.2.2.2.1; have e2 : (1 : Int32).toInt = 1 := (by decide); obtain ⟨k3, e3⟩ := s_add (σ0 6 10) (1 : Int32); have e3a := s_rng ((σ0 6 10) + 1); omega)
    refine g_aload_n hF d_X11_declareLocal_77 rfl 1 rfl ?_
    refine g_dup hF d_X11_declareLocal_78 rfl ?_
    refine g_get (v := .int (σ0 6 15)) hF 15 obC_6 (by decide) m_342 rfl d_X11_declareLocal_79 ?_
    refine g_iconst hF (v := 1) d_X11_declareLocal_82 (by decide) ?_
    refine g_iadd hF d_X11_declareLocal_83 ?_
    refine g_put (v := ((σ0 6 15) + 1)) hF 15 obC_6 (by decide) m_342 rfl rfl rfl d_X11_declareLocal_84 ?_
    have kp : Keep [(6, 10), (6, 15)] [40, 41, 42, 43, 44] σ0 (upC (upC (upF (upF (upF (upF (upF σ0 40 g1) 41 g2) 42 g3) 43 g10) 44 g11) 6 10 ((σ0 6 10) + 1)) 6 15 ((σ0 6 15) + 1)) := keep_f kp (by decide)
    have p13 : 0 ≤ ((σ0 6 15) + 1).toInt ∧ ((σ0 6 15) + 1).toInt ≤ 100000 := (by have e0 := s_rng (σ0 6 15); have e1 := i0.2.2.2.2.2.2.1; have e2 := i0.2.2.2.2.2.2.2.2.2.2.2.2.2.2.2.2.2.2.1.1; have e3 : (1 : Int32).toInt = 1 := (by decide); obtain ⟨k4, e4⟩ := s_add (σ0 6 15) (1 : Int32); have e4a := s_rng ((σ0 6 15) + 1); omega)
    have j14 : Inv (upC (upC (upF (upF (upF (upF (upF σ0 40 g1) 41 g2) 42 g3) 43 g10) 44 g11) 6 10 ((σ0 6 10) + 1)) 6 15 ((σ0 6 15) + 1)) := ⟨i0.1, i0.2.1, i0.2.2.1, i0.2.2.2.1, i0.2.2.2.2.1, p12, p13, i0.2.2.2.2.2.2.2.1, i0.2.2.2.2.2.2.2.2.1, i0.2.2.2.2.2.2.2.2.2.1, i0.2.2.2.2.2.2.2.2.2.2.1, i0.2.2.2.2.2.2.2.2.2.2.2.1, i0.2.2.2.2.2.2.2.2.2.2.2.2.1, i0.2.2.2.2.2.2.2.2.2.2.2.2.2.1, i0.2.2.2.2.2.2.2.2.2.2.2.2.2.2.1, i0.2.2.2.2.2.2.2.2.2.2.2.2.2.2.2.1, i0.2.2.2.2.2.2.2.2.2.2.2.2.2.2.2.2.1, i0.2.2.2.2.2.2.2.2.2.2.2.2.2.2.2.2.2.1, ⟨(by show ((σ0 6 15) + 1).toInt ≤ ((σ0 6 10) + 1).toInt; have hb1 : (σ0 6 15).toInt ≤ (σ0 6 10).toInt := i0.2.2.2.2.2.2.2.2.2.2.2.2.2.2.2.2.2.2.1.1; have e0 := s_rng (σ0 6 10); have e1 := i0.2.2.2.2.2.1; have e2 : (1 : Int32).toInt = 1 := (by decide); obtain ⟨k3, e3⟩ := s_add (σ0 6 10) (1 : Int32); have e3a := s_rng ((σ0 6 10) + 1); have e5 := s_rng (σ0 6 15); have e6 := i0.2.2.2.2.2.2.1; have e7 := i0.2.2.2.2.2.2.2.2.2.2.2.2.2.2.2.2.2.2.1.1; obtain ⟨k8, e8⟩ := s_add (σ0 6 15) (1 : Int32); have e8a := s_rng ((σ0 6 15) + 1); have e10 := s_rng (σ0 6 17); omega), (fun z hz1 hz2 => by have hz2 : (z : Int) < (σ0 6 17).toInt := hz2; have hb1 : (σ0 6 15).toInt ≤ (σ0 6 10).toInt := i0.2.2.2.2.2.2.2.2.2.2.2.2.2.2.2.2.2.2.1.1; have hb2 : (z : Int) < (σ0 6 17).toInt → (σ0 45 z).toInt ≤ (σ0 6 10).toInt := i0.2.2.2.2.2.2.2.2.2.2.2.2.2.2.2.2.2.2.1.2 z hz1; have e0 := s_rng (σ0 6 10); have e1 := i0.2.2.2.2.2.1; have e2 : (1 : Int32).toInt = 1 := (by decide); obtain ⟨k3, e3⟩ := s_add (σ0 6 10) (1 : Int32); have e3a := s_rng ((σ0 6 10) + 1); have e5 := s_rng (σ0 6 15); have e6 := i0.2.2.2.2.2.2.1; have e7 := i0.2.2.2.2.2.2.2.2.2.2.2.2.2.2.2.2.2.2.1.1; obtain ⟨k8, e8⟩ := s_add (σ0 6 15) (1 : Int32); have e8a := s_rng ((σ0 6 15) + 1); have e10 := s_rng (σ0 6 17); show (σ0 45 z).toInt ≤ ((σ0 6 10) + 1).toInt; omega)⟩, i0.2.2.2.2.2.2.2.2.2.2.2.2.2.2.2.2.2.2.2⟩
    exact g_vret hF rfl d_X11_declareLocal_87 ⟨rfl, rfl, rfl, ⟨(by show ((σ0 6 10) + 1).toInt = (σ0 6 10).toInt + 1; have e0 := s_rng (σ0 6 10); have e1 := i0.2.2.2.2.2.1; have e2 : (1 : Int32).toInt = 1 := (by decide); obtain ⟨k3, e3⟩ := s_add (σ0 6 10) (1 : Int32); have e3a := s_rng ((σ0 6 10) + 1); omega), j14, kp⟩⟩
set_option maxHeartbeats 4000000 in
set_option maxRecDepth 100000 in
theorem c_X1_storeLocal (a : Nat → Nat) (g : Nat → Nat → Int32) (r : Nat → Nat) (σ0 : St) (i0 : Inv σ0) (l : Launch) (D : va_G) (cy : Nat → ClassId) : Ct l D cy SC r (EC a g) y_X1_storeLocal (Cond.code y_X1_storeLocal b_X1_storeLocal 1 none) 1 [.ref (r 8)] σ0 Z0 [] (QV (fun σ9 => (Inv σ9 ∧ Keep [(4, 1)] [24] σ0 σ9))) QF := by
  refine Ct_of (EC_ok a g) (by decide) (Nat.le_of_ble_eq_true rfl) (by decide) (fun X hnn hF => ?_)
  show G SC r X σ0 Z0 [] [(0, .ref (r 8))] [] 0
  have kp : Keep [(4, 1)] [24] σ0 σ0 := keep_rf
  refine g_aload_n hF d_X1_storeLocal_0 rfl 0 rfl ?_
  refine g_get (v := .ref (r 4)) hF 4 obC_8 (by decide) m_493 rfl d_X1_storeLocal_1 ?_
  refine g_bipush hF (v := 9) d_X1_storeLocal_4 (by decide) ?_
  refine g_aload_n hF d_X1_storeLocal_6 rfl 0 rfl ?_
  refine g_get (v := .int (σ0 8 10)) hF 10 obC_8 (by decide) m_502 rfl d_X1_storeLocal_7 ?_
  refine g_iconst hF (v := 0) d_X1_storeLocal_10 (by decide) ?_
  refine g_iconst hF (v := 0) d_X1_storeLocal_11 (by decide) ?_
  refine g_callVN (As := [.int 9, .int (σ0 8 10), .int 0, .int 0]) (rest := []) hF (c_X0_emit a g r σ0 (9 : Int32) (σ0 8 10) (0 : Int32) (0 : Int32) i0) (Nat.le_of_ble_eq_true rfl) mV_X0_emit nm_1379 (recv_ob obC_4) rfl rfl (Nat.le_of_ble_eq_true rfl) d_X1_storeLocal_12 (k_i (fun r1 σ1 ⟨iσ1, ik1⟩ => ?_))
  have kp : Keep [(4, 1)] [24] σ0 σ1 := keep_c kp ik1 (by decide) (by decide)
  refine g_pop hF d_X1_storeLocal_15 rfl ?_
  refine g_aload_n hF d_X1_storeLocal_16 rfl 0 rfl ?_
  refine g_get (v := .ref (r 4)) hF 4 obC_8 (by decide) m_493 rfl d_X1_storeLocal_17 ?_
  refine g_iconst hF (v := 2) d_X1_storeLocal_20 (by decide) ?_
  refine g_iconst hF (v := 0) d_X1_storeLocal_21 (by decide) ?_
  refine g_iconst hF (v := 0) d_X1_storeLocal_22 (by decide) ?_
  refine g_iconst hF (v := 0) d_X1_storeLocal_23 (by decide) ?_
  refine g_callVN (As := [.int 2, .int 0, .int 0, .int 0]) (rest := []) hF (c_X0_emit a g r σ1 (2 : Int32) (0 : Int32) (0 : Int32) (0 : Int32) iσ1) (Nat.le_of_ble_eq_true rfl) mV_X0_emit nm_1379 (recv_ob obC_4) rfl rfl (Nat.le_of_ble_eq_true rfl) d_X1_storeLocal_24 (k_i (fun r2 σ2 ⟨iσ2, ik2⟩ => ?_))
  have kp : Keep [(4, 1)] [24] σ0 σ2 := keep_c kp ik2 (by decide) (by decide)
  refine g_pop hF d_X1_storeLocal_27 rfl ?_
  exact g_vret hF rfl d_X1_storeLocal_28 ⟨rfl, rfl, rfl, ⟨iσ2, kp⟩⟩
set_option maxHeartbeats 4000000 in
set_option maxRecDepth 100000 in
theorem c_X1_joins (a : Nat → Nat) (g : Nat → Nat → Int32) (r : Nat → Nat) (σ0 : St) (a1 : Int32) (a2 : Int32) (i0 : Inv σ0) (l : Launch) (D : va_G) (cy : Nat → ClassId) : Ct l D cy SC r (EC a g) y_X1_joins (Cond.code y_X1_joins b_X1_joins 7 (some .boolean)) 2 [.ref (r 8), .int a1, .int a2] σ0 Z0 [] (QI (fun v9 σ9 => (v9 = 0 ∨ v9 = 1) ∧ σ9 = σ0)) QF := by
  refine Ct_of (EC_ok a g) (by decide) (Nat.le_of_ble_eq_true rfl) (by decide) (fun X hnn hF => ?_)
  show G SC r X σ0 Z0 [] [(0, .ref (r 8)), (1, .int a1), (2, .int a2)] [] 0
  have b159 : ∀ (x1 : Int32) (x2 : Int32) (x3 : Int32) (x4 : Int32) (x5 : Int32) (x6 : Int32) , x4 = 0 ∨ x4 = 1 → x5 = 0 ∨ x5 = 1 → x6 = 0 ∨ x6 = 1 → G SC r X σ0 Z0 [] [(0, .ref (r 8)), (1, .int x1), (2, .int x2), (3, .int x3), (4, .int x4), (5, .int x5), (6, .int x6)] [] 159 := by
    intro x1 x2 x3 x4 x5 x6 z_x4 z_x5 z_x6
    refine g_iconst hF (v := 1) d_X1_joins_159 (by decide) ?_
    refine g_goto hF 164 d_X1_joins_160 (by decide) ?_
    exact g_zret hF rfl (k_nz (Or.inr rfl)) d_X1_joins_164 ⟨rfl, rfl, (1 : Int32), rfl, (Or.inr rfl), rfl⟩
  have b123 : ∀ (x1 : Int32) (x2 : Int32) (x3 : Int32) (x4 : Int32) (x5 : Int32) (y0 : Int32) , x4 = 0 ∨ x4 = 1 → x5 = 0 ∨ x5 = 1 → y0 = 0 ∨ y0 = 1 → G SC r X σ0 Z0 [] [(0, .ref (r 8)), (1, .int x1), (2, .int x2), (3, .int x3), (4, .int x4), (5, .int x5)] [.int y0] 123 := by
    intro x1 x2 x3 x4 x5 y0 z_x4 z_x5 z_y0
    refine g_istore hF [(6, .int y0), (0, .ref (r 8)), (1, .int x1), (2, .int x2), (3, .int x3), (4, .int x4), (5, .int x5)] d_X1_joins_123 hnn (by decide) rfl ?_
    refine g_iload hF d_X1_joins_125 5 rfl ?_
    refine g_if_eq hF 163 d_X1_joins_127 (by decide) rfl (fun c1_127 => ?_) (fun c1_127 => ?_)
    · -- taken at 127
      refine g_iconst hF (v := 0) d_X1_joins_163 (by decide) ?_
      exact g_zret hF rfl (k_nz (Or.inl rfl)) d_X1_joins_164 ⟨rfl, rfl, (0 : Int32), rfl, (Or.inl rfl), rfl⟩
    · -- not taken at 127
      refine g_iload hF d_X1_joins_130 6 rfl ?_
      refine g_if_eq hF 163 d_X1_joins_132 (by decide) rfl (fun c2_132 => ?_) (fun c2_132 => ?_)
      · -- taken at 132
        refine g_iconst hF (v := 0) d_X1_joins_163 (by decide) ?_
        exact g_zret hF rfl (k_nz (Or.inl rfl)) d_X1_joins_164 ⟨rfl, rfl, (0 : Int32), rfl, (Or.inl rfl), rfl⟩
      · -- not taken at 132
        refine g_iload hF d_X1_joins_135 0 rfl ?_
        refine g_if_eq hF 163 d_X1_joins_137 (by decide) rfl (fun c3_137 => ?_) (fun c3_137 => ?_)
        · -- taken at 137
          refine g_iconst hF (v := 0) d_X1_joins_163 (by decide) ?_
          exact g_zret hF rfl (k_nz (Or.inl rfl)) d_X1_joins_164 ⟨rfl, rfl, (0 : Int32), rfl, (Or.inl rfl), rfl⟩
        · -- not taken at 137
          refine g_aload_n hF d_X1_joins_140 rfl 1 rfl ?_
          refine g_get (v := .int (σ0 8 13)) hF 13 obC_8 (by decide) m_505 rfl d_X1_joins_141 ?_
          refine g_if_ne hF 159 d_X1_joins_144 (by decide) rfl (fun c4_144 => ?_) (fun c4_144 => ?_)
          · -- taken at 144
            exact g_sub (L' := [(0, .ref (r 8)), (1, .int x1), (2, .int x2), (3, .int x3), (4, .int x4), (5, .int x5), (6, .int y0)]) [1, 2, 3, 4, 5, 6, 0] rfl (b159 x1 x2 x3 x4 x5 y0 z_x4 z_x5 z_y0)
          · -- not taken at 144
            refine g_aload_n hF d_X1_joins_147 rfl 1 rfl ?_
            refine g_get (v := .ref (r 5)) hF 3 obC_8 (by decide) m_492 rfl d_X1_joins_148 ?_
            refine g_iload_n hF d_X1_joins_151 rfl 2 rfl ?_
            refine g_iconst hF (v := 4) d_X1_joins_152 (by decide) ?_
            refine g_callVN (As := [.int x1, .int 4]) (rest := []) hF (c_X8_is a g r σ0 x1 (4 : Int32) i0) (Nat.le_of_ble_eq_true rfl) mV_X8_is nm_1393 (recv_ob obC_5) rfl rfl (Nat.le_of_ble_eq_true rfl) d_X1_joins_153 (k_roz (fun r5 hz5 => ?_))
            refine g_if_ne hF 163 d_X1_joins_156 (by decide) rfl (fun c6_156 => ?_) (fun c6_156 => ?_)
            · -- taken at 156
              refine g_iconst hF (v := 0) d_X1_joins_163 (by decide) ?_
              exact g_zret hF rfl (k_nz (Or.inl rfl)) d_X1_joins_164 ⟨rfl, rfl, (0 : Int32), rfl, (Or.inl rfl), rfl⟩
            · -- not taken at 156
              exact g_sub (L' := [(0, .ref (r 8)), (1, .int x1), (2, .int x2), (3, .int x3), (4, .int x4), (5, .int x5), (6, .int y0)]) [1, 2, 3, 4, 5, 6, 0] rfl (b159 x1 x2 x3 x4 x5 y0 z_x4 z_x5 z_y0)
  have b122 : ∀ (x1 : Int32) (x2 : Int32) (x3 : Int32) (x4 : Int32) (x5 : Int32) , x4 = 0 ∨ x4 = 1 → x5 = 0 ∨ x5 = 1 → G SC r X σ0 Z0 [] [(0, .ref (r 8)), (1, .int x1), (2, .int x2), (3, .int x3), (4, .int x4), (5, .int x5)] [] 122 := by
    intro x1 x2 x3 x4 x5 z_x4 z_x5
    refine g_iconst hF (v := 0) d_X1_joins_122 (by decide) ?_
    exact b123 x1 x2 x3 x4 x5 (0 : Int32) z_x4 z_x5 (Or.inl rfl)
  have b99 : ∀ (x1 : Int32) (x2 : Int32) (x3 : Int32) (x4 : Int32) (y0 : Int32) , x4 = 0 ∨ x4 = 1 → y0 = 0 ∨ y0 = 1 → G SC r X σ0 Z0 [] [(0, .ref (r 8)), (1, .int x1), (2, .int x2), (3, .int x3), (4, .int x4)] [.int y0] 99 := by
    intro x1 x2 x3 x4 y0 z_x4 z_y0
    refine g_istore hF [(5, .int y0), (0, .ref (r 8)), (1, .int x1), (2, .int x2), (3, .int x3), (4, .int x4)] d_X1_joins_99 hnn (by decide) rfl ?_
    refine g_iload_n hF d_X1_joins_101 rfl 3 rfl ?_
    refine g_iconst hF (v := 1) d_X1_joins_102 (by decide) ?_
    refine g_icmp_eq (yv := 1) hF 122 d_X1_joins_103 (by decide) rfl (by decide) (fun c7_103 => ?_) (fun c7_103 => ?_)
    · -- taken at 103
      exact g_sub (L' := [(0, .ref (r 8)), (1, .int x1), (2, .int x2), (3, .int x3), (4, .int x4), (5, .int y0)]) [1, 2, 3, 4, 5, 0] rfl (b122 x1 x2 x3 x4 y0 z_x4 z_y0)
    · -- not taken at 103
      refine g_aload_n hF d_X1_joins_106 rfl 1 rfl ?_
      refine g_get (v := .ref (r 5)) hF 3 obC_8 (by decide) m_492 rfl d_X1_joins_107 ?_
      refine g_iload_n hF d_X1_joins_110 rfl 2 rfl ?_
      refine g_iconst hF (v := 2) d_X1_joins_111 (by decide) ?_
      refine g_callVN (As := [.int x1, .int 2]) (rest := []) hF (c_X8_is a g r σ0 x1 (2 : Int32) i0) (Nat.le_of_ble_eq_true rfl) mV_X8_is nm_1393 (recv_ob obC_5) rfl rfl (Nat.le_of_ble_eq_true rfl) d_X1_joins_112 (k_roz (fun r8 hz8 => ?_))
      refine g_if_ne hF 122 d_X1_joins_115 (by decide) rfl (fun c9_115 => ?_) (fun c9_115 => ?_)
      · -- taken at 115
        exact g_sub (L' := [(0, .ref (r 8)), (1, .int x1), (2, .int x2), (3, .int x3), (4, .int x4), (5, .int y0)]) [1, 2, 3, 4, 5, 0] rfl (b122 x1 x2 x3 x4 y0 z_x4 z_y0)
      · -- not taken at 115
        refine g_iconst hF (v := 1) d_X1_joins_118 (by decide) ?_
        refine g_goto hF 123 d_X1_joins_119 (by decide) ?_
        exact g_sub (L' := [(0, .ref (r 8)), (1, .int x1), (2, .int x2), (3, .int x3), (4, .int x4), (5, .int y0)]) [1, 2, 3, 4, 5, 0] rfl (b123 x1 x2 x3 x4 y0 (1 : Int32) z_x4 z_y0 (Or.inr rfl))
  have b94 : ∀ (x1 : Int32) (x2 : Int32) (x3 : Int32) (x4 : Int32) , x4 = 0 ∨ x4 = 1 → G SC r X σ0 Z0 [] [(0, .ref (r 8)), (1, .int x1), (2, .int x2), (3, .int x3), (4, .int x4)] [] 94 := by
    intro x1 x2 x3 x4 z_x4
    refine g_iconst hF (v := 1) d_X1_joins_94 (by decide) ?_
    refine g_goto hF 99 d_X1_joins_95 (by decide) ?_
    exact b99 x1 x2 x3 x4 (1 : Int32) z_x4 (Or.inr rfl)
  have b73 : ∀ (x1 : Int32) (x2 : Int32) (x3 : Int32) (y0 : Int32) , y0 = 0 ∨ y0 = 1 → G SC r X σ0 Z0 [] [(0, .ref (r 8)), (1, .int x1), (2, .int x2), (3, .int x3)] [.int y0] 73 := by
    intro x1 x2 x3 y0 z_y0
    refine g_istore hF [(4, .int y0), (0, .ref (r 8)), (1, .int x1), (2, .int x2), (3, .int x3)] d_X1_joins_73 hnn (by decide) rfl ?_
    refine g_iload_n hF d_X1_joins_75 rfl 4 rfl ?_
    refine g_if_le hF 94 d_X1_joins_76 (by decide) rfl (fun c10_76 => ?_) (fun c10_76 => ?_)
    · -- taken at 76
      exact g_sub (L' := [(0, .ref (r 8)), (1, .int x1), (2, .int x2), (3, .int x3), (4, .int y0)]) [1, 2, 3, 4, 0] rfl (b94 x1 x2 x3 y0 z_y0)
    · -- not taken at 76
      refine g_aload_n hF d_X1_joins_79 rfl 1 rfl ?_
      refine g_get (v := .int (σ0 8 12)) hF 12 obC_8 (by decide) m_504 rfl d_X1_joins_80 ?_
      refine g_if_le hF 94 d_X1_joins_83 (by decide) rfl (fun c11_83 => ?_) (fun c11_83 => ?_)
      · -- taken at 83
        exact g_sub (L' := [(0, .ref (r 8)), (1, .int x1), (2, .int x2), (3, .int x3), (4, .int y0)]) [1, 2, 3, 4, 0] rfl (b94 x1 x2 x3 y0 z_y0)
      · -- not taken at 83
        refine g_iload_n hF d_X1_joins_86 rfl 4 rfl ?_
        refine g_aload_n hF d_X1_joins_87 rfl 1 rfl ?_
        refine g_get (v := .int (σ0 8 12)) hF 12 obC_8 (by decide) m_504 rfl d_X1_joins_88 ?_
        refine g_icmp_ne hF 98 d_X1_joins_91 (by decide) rfl rfl (fun c12_91 => ?_) (fun c12_91 => ?_)
        · -- taken at 91
          refine g_iconst hF (v := 0) d_X1_joins_98 (by decide) ?_
          exact g_sub (L' := [(0, .ref (r 8)), (1, .int x1), (2, .int x2), (3, .int x3), (4, .int y0)]) [1, 2, 3, 4, 0] rfl (b99 x1 x2 x3 y0 (0 : Int32) z_y0 (Or.inl rfl))
        · -- not taken at 91
          exact g_sub (L' := [(0, .ref (r 8)), (1, .int x1), (2, .int x2), (3, .int x3), (4, .int y0)]) [1, 2, 3, 4, 0] rfl (b94 x1 x2 x3 y0 z_y0)
  have b72 : ∀ (x1 : Int32) (x2 : Int32) (x3 : Int32) , G SC r X σ0 Z0 [] [(0, .ref (r 8)), (1, .int x1), (2, .int x2), (3, .int x3)] [] 72 := by
    intro x1 x2 x3
    refine g_iconst hF (v := 0) d_X1_joins_72 (by decide) ?_
    exact b73 x1 x2 x3 (0 : Int32) (Or.inl rfl)
  have b65 : ∀ (x1 : Int32) (x2 : Int32) (x3 : Int32) (y0 : Int32) (y1 : Int32) , y0 = 0 ∨ y0 = 1 → y1 = 0 ∨ y1 = 1 → G SC r X σ0 Z0 [] [(0, .ref (r 8)), (1, .int x1), (2, .int x2), (3, .int x3)] [.int y1, .int y0] 65 := by
    intro x1 x2 x3 y0 y1 z_y0 z_y1
    refine g_icmp_ne hF 72 d_X1_joins_65 (by decide) rfl rfl (fun c13_65 => ?_) (fun c13_65 => ?_)
    · -- taken at 65
      exact b72 x1 x2 x3
    · -- not taken at 65
      refine g_iconst hF (v := 1) d_X1_joins_68 (by decide) ?_
      refine g_goto hF 73 d_X1_joins_69 (by decide) ?_
      exact b73 x1 x2 x3 (1 : Int32) (Or.inr rfl)
  have b52 : ∀ (x1 : Int32) (x2 : Int32) (x3 : Int32) (y0 : Int32) , y0 = 0 ∨ y0 = 1 → G SC r X σ0 Z0 [] [(0, .ref (r 8)), (1, .int x1), (2, .int x2), (3, .int x3)] [.int y0] 52 := by
    intro x1 x2 x3 y0 z_y0
    refine g_aload_n hF d_X1_joins_52 rfl 0 rfl ?_
    refine g_get (v := .int (σ0 8 12)) hF 12 obC_8 (by decide) m_504 rfl d_X1_joins_53 ?_
    refine g_iconst hF (v := (-1)) d_X1_joins_56 (by decide) ?_
    refine g_icmp_ne (yv := -1) hF 64 d_X1_joins_57 (by decide) rfl (by decide) (fun c14_57 => ?_) (fun c14_57 => ?_)
    · -- taken at 57
      refine g_iconst hF (v := 0) d_X1_joins_64 (by decide) ?_
      exact b65 x1 x2 x3 y0 (0 : Int32) z_y0 (Or.inl rfl)
    · -- not taken at 57
      refine g_iconst hF (v := 1) d_X1_joins_60 (by decide) ?_
      refine g_goto hF 65 d_X1_joins_61 (by decide) ?_
      exact b65 x1 x2 x3 y0 (1 : Int32) z_y0 (Or.inr rfl)
  refine g_aload_n hF d_X1_joins_0 rfl 0 rfl ?_
  refine g_get (v := .ref (r 5)) hF 3 obC_8 (by decide) m_492 rfl d_X1_joins_1 ?_
  refine g_getN (v := .ref (r 27)) hF 4 obC_5 (by decide) nm_232 rfl d_X1_joins_4 ?_
  refine g_iload_n hF d_X1_joins_7 rfl 1 rfl ?_
  refine g_callSN (As := [.ref (r 27), .int a1]) (rest := []) hF (c_at a g r σ0 arC_27 (by decide) a1) (Nat.le_of_ble_eq_true rfl) mS_X12_at nm_1356 rfl rfl (Nat.le_of_ble_eq_true rfl) d_X1_joins_8 (k_rop (fun r15 hr15 => ?_))
  refine g_istore_n hF [(3, .int r15), (0, .ref (r 8)), (1, .int a1), (2, .int a2)] d_X1_joins_11 rfl hnn (by decide) rfl ?_
  refine g_aload_n hF d_X1_joins_12 rfl 1 rfl ?_
  refine g_get (v := .ref (r 5)) hF 3 obC_8 (by decide) m_492 rfl d_X1_joins_13 ?_
  refine g_iload_n hF d_X1_joins_16 rfl 2 rfl ?_
  refine g_iconst hF (v := 1) d_X1_joins_17 (by decide) ?_
  refine g_callVN (As := [.int a1, .int 1]) (rest := []) hF (c_X8_is a g r σ0 a1 (1 : Int32) i0) (Nat.le_of_ble_eq_true rfl) mV_X8_is nm_1393 (recv_ob obC_5) rfl rfl (Nat.le_of_ble_eq_true rfl) d_X1_joins_18 (k_roz (fun r16 hz16 => ?_))
  refine g_if_ne hF 72 d_X1_joins_21 (by decide) rfl (fun c17_21 => ?_) (fun c17_21 => ?_)
  · -- taken at 21
    exact g_sub (L' := [(0, .ref (r 8)), (1, .int a1), (2, .int a2), (3, .int r15)]) [1, 2, 3, 0] rfl (b72 a1 a2 r15)
  · -- not taken at 21
    refine g_aload_n hF d_X1_joins_24 rfl 1 rfl ?_
    refine g_get (v := .ref (r 5)) hF 3 obC_8 (by decide) m_492 rfl d_X1_joins_25 ?_
    refine g_getN (v := .ref (r 26)) hF 3 obC_5 (by decide) nm_227 rfl d_X1_joins_28 ?_
    refine g_iload_n hF d_X1_joins_31 rfl 2 rfl ?_
    refine g_callSN (As := [.ref (r 26), .int a1]) (rest := []) hF (c_at a g r σ0 arC_26 (by decide) a1) (Nat.le_of_ble_eq_true rfl) mS_X12_at nm_1356 rfl rfl (Nat.le_of_ble_eq_true rfl) d_X1_joins_32 (k_rop (fun r18 hr18 => ?_))
    refine g_aload_n hF d_X1_joins_35 rfl 1 rfl ?_
    refine g_get (v := .int (σ0 8 11)) hF 11 obC_8 (by decide) m_503 rfl d_X1_joins_36 ?_
    refine g_icmp_ne hF 72 d_X1_joins_39 (by decide) rfl rfl (fun c19_39 => ?_) (fun c19_39 => ?_)
    · -- taken at 39
      exact g_sub (L' := [(0, .ref (r 8)), (1, .int a1), (2, .int a2), (3, .int r15)]) [1, 2, 3, 0] rfl (b72 a1 a2 r15)
    · -- not taken at 39
      refine g_iload_n hF d_X1_joins_42 rfl 0 rfl ?_
      refine g_iconst hF (v := (-1)) d_X1_joins_43 (by decide) ?_
      refine g_icmp_ne (yv := -1) hF 51 d_X1_joins_44 (by decide) rfl (by decide) (fun c20_44 => ?_) (fun c20_44 => ?_)
      · -- taken at 44
        refine g_iconst hF (v := 0) d_X1_joins_51 (by decide) ?_
        exact g_sub (L' := [(0, .ref (r 8)), (1, .int a1), (2, .int a2), (3, .int r15)]) [1, 2, 3, 0] rfl (b52 a1 a2 r15 (0 : Int32) (Or.inl rfl))
      · -- not taken at 44
        refine g_iconst hF (v := 1) d_X1_joins_47 (by decide) ?_
        refine g_goto hF 52 d_X1_joins_48 (by decide) ?_
        exact g_sub (L' := [(0, .ref (r 8)), (1, .int a1), (2, .int a2), (3, .int r15)]) [1, 2, 3, 0] rfl (b52 a1 a2 r15 (1 : Int32) (Or.inr rfl))
set_option maxHeartbeats 4000000 in
set_option maxRecDepth 100000 in
theorem c_X1_checkOuter (a : Nat → Nat) (g : Nat → Nat → Int32) (r : Nat → Nat) (σ0 : St) (a1 : Int32) (a2 : Int32) (a3 : Int32) (i0 : Inv σ0) (z_a3 : a3 = 0 ∨ a3 = 1) (l : Launch) (D : va_G) (cy : Nat → ClassId) : Ct l D cy SC r (EC a g) y_X1_checkOuter (Cond.code y_X1_checkOuter b_X1_checkOuter 4 none) 1 [.ref (r 8), .int a1, .int a2, .int a3] σ0 Z0 [] (QV (fun σ9 => (Inv σ9 ∧ Keep [(6, 3), (6, 4)] [] σ0 σ9))) QF := by
  refine Ct_of (EC_ok a g) (by decide) (Nat.le_of_ble_eq_true rfl) (by decide) (fun X hnn hF => ?_)
  show G SC r X σ0 Z0 [] [(0, .ref (r 8)), (1, .int a1), (2, .int a2), (3, .int a3)] [] 0
  have kp : Keep [(6, 3), (6, 4)] [] σ0 σ0 := keep_rf
  refine g_iload_n hF d_X1_checkOuter_0 rfl 3 rfl ?_
  refine g_if_ne hF 13 d_X1_checkOuter_1 (by decide) rfl (fun c1_1 => ?_) (fun c1_1 => ?_)
  · -- taken at 1
    refine g_iload_n hF d_X1_checkOuter_13 rfl 2 rfl ?_
    refine g_if_ge hF 38 d_X1_checkOuter_14 (by decide) rfl (fun c2_14 => ?_) (fun c2_14 => ?_)
    · -- taken at 14
      exact g_vret hF rfl d_X1_checkOuter_38 ⟨rfl, rfl, rfl, ⟨i0, kp⟩⟩
    · -- not taken at 14
      refine g_aload_n hF d_X1_checkOuter_17 rfl 0 rfl ?_
      refine g_get (v := .ref (r 6)) hF 2 obC_8 (by decide) m_491 rfl d_X1_checkOuter_18 ?_
      refine g_getN (v := .int (σ0 6 7)) hF 7 obC_6 (by decide) nm_328 rfl d_X1_checkOuter_21 ?_
      refine g_bipush hF (v := 100) d_X1_checkOuter_24 (by decide) ?_
      refine g_icmp_lt (yv := 100) hF 38 d_X1_checkOuter_26 (by decide) rfl (by decide) (fun c3_26 => ?_) (fun c3_26 => ?_)
      · -- taken at 26
        exact g_vret hF rfl d_X1_checkOuter_38 ⟨rfl, rfl, rfl, ⟨i0, kp⟩⟩
      · -- not taken at 26
        refine g_aload_n hF d_X1_checkOuter_29 rfl 0 rfl ?_
        refine g_get (v := .ref (r 6)) hF 2 obC_8 (by decide) m_491 rfl d_X1_checkOuter_30 ?_
        refine g_iconst hF (v := 4) d_X1_checkOuter_33 (by decide) ?_
        refine g_iload_n hF d_X1_checkOuter_34 rfl 1 rfl ?_
        refine g_callVN (As := [.int 4, .int a1]) (rest := []) hF (c_X11_fail a g r σ0 (4 : Int32) a1 i0) (Nat.le_of_ble_eq_true rfl) mV_X11_fail nm_1370 (recv_ob obC_6) rfl rfl (Nat.le_of_ble_eq_true rfl) d_X1_checkOuter_35 (k_v (fun σ4 ⟨iσ4, ik4⟩ => ?_))
        have kp : Keep [(6, 3), (6, 4)] [] σ0 σ4 := keep_c kp ik4 (by decide) (by decide)
        exact g_vret hF rfl d_X1_checkOuter_38 ⟨rfl, rfl, rfl, ⟨iσ4, kp⟩⟩
  · -- not taken at 1
    refine g_aload_n hF d_X1_checkOuter_4 rfl 0 rfl ?_
    refine g_get (v := .ref (r 6)) hF 2 obC_8 (by decide) m_491 rfl d_X1_checkOuter_5 ?_
    refine g_iconst hF (v := 2) d_X1_checkOuter_8 (by decide) ?_
    refine g_iload_n hF d_X1_checkOuter_9 rfl 1 rfl ?_
    refine g_callVN (As := [.int 2, .int a1]) (rest := []) hF (c_X11_fail a g r σ0 (2 : Int32) a1 i0) (Nat.le_of_ble_eq_true rfl) mV_X11_fail nm_1370 (recv_ob obC_6) rfl rfl (Nat.le_of_ble_eq_true rfl) d_X1_checkOuter_10 (k_v (fun σ5 ⟨iσ5, ik5⟩ => ?_))
    have kp : Keep [(6, 3), (6, 4)] [] σ0 σ5 := keep_c kp ik5 (by decide) (by decide)
    refine g_iload_n hF d_X1_checkOuter_13 rfl 2 rfl ?_
    refine g_if_ge hF 38 d_X1_checkOuter_14 (by decide) rfl (fun c6_14 => ?_) (fun c6_14 => ?_)
    · -- taken at 14
      exact g_vret hF rfl d_X1_checkOuter_38 ⟨rfl, rfl, rfl, ⟨iσ5, kp⟩⟩
    · -- not taken at 14
      refine g_aload_n hF d_X1_checkOuter_17 rfl 0 rfl ?_
      refine g_get (v := .ref (r 6)) hF 2 obC_8 (by decide) m_491 rfl d_X1_checkOuter_18 ?_
      refine g_getN (v := .int (σ5 6 7)) hF 7 obC_6 (by decide) nm_328 rfl d_X1_checkOuter_21 ?_
      refine g_top (v := (σ0 6 7)) (ik5 6 7 rfl rfl rfl) ?_
      refine g_bipush hF (v := 100) d_X1_checkOuter_24 (by decide) ?_
      refine g_icmp_lt (yv := 100) hF 38 d_X1_checkOuter_26 (by decide) rfl (by decide) (fun c7_26 => ?_) (fun c7_26 => ?_)
      · -- taken at 26
        exact g_vret hF rfl d_X1_checkOuter_38 ⟨rfl, rfl, rfl, ⟨iσ5, kp⟩⟩
      · -- not taken at 26
        refine g_aload_n hF d_X1_checkOuter_29 rfl 0 rfl ?_
        refine g_get (v := .ref (r 6)) hF 2 obC_8 (by decide) m_491 rfl d_X1_checkOuter_30 ?_
        refine g_iconst hF (v := 4) d_X1_checkOuter_33 (by decide) ?_
        refine g_iload_n hF d_X1_checkOuter_34 rfl 1 rfl ?_
        refine g_callVN (As := [.int 4, .int a1]) (rest := []) hF (c_X11_fail a g r σ5 (4 : Int32) a1 iσ5) (Nat.le_of_ble_eq_true rfl) mV_X11_fail nm_1370 (recv_ob obC_6) rfl rfl (Nat.le_of_ble_eq_true rfl) d_X1_checkOuter_35 (k_v (fun σ8 ⟨iσ8, ik8⟩ => ?_))
        have kp : Keep [(6, 3), (6, 4)] [] σ0 σ8 := keep_c kp ik8 (by decide) (by decide)
        exact g_vret hF rfl d_X1_checkOuter_38 ⟨rfl, rfl, rfl, ⟨iσ8, kp⟩⟩
set_option maxHeartbeats 4000000 in
set_option maxRecDepth 100000 in
theorem c_X6_isInitial (a : Nat → Nat) (g : Nat → Nat → Int32) (r : Nat → Nat) (σ0 : St) (qa0 : Nat) (hqa0 : isOp qa0) (i0 : Inv σ0) (l : Launch) (D : va_G) (cy : Nat → ClassId) : Ct l D cy SC r (EC a g) y_X6_isInitial (Cond.code y_X6_isInitial b_X6_isInitial 1 (some .boolean)) 0 [.ref (r qa0)] σ0 Z0 [] (QI (fun v9 σ9 => (v9 = 0 ∨ v9 = 1) ∧ σ9 = σ0)) QF := by
  refine Ct_of (EC_ok a g) (by decide) (Nat.le_of_ble_eq_true rfl) (by decide) (fun X hnn hF => ?_)
  show G SC r X σ0 Z0 [] [(0, .ref (r qa0))] [] 0
  refine g_aload_n hF d_X6_isInitial_0 rfl 0 rfl ?_
  refine g_get hF 6 (obC_op hqa0) (by decide) m_411 (fval_op hqa0) d_X6_isInitial_1 ?_
  refine g_any (fun v1 => ?_)
  refine g_if_eq hF 11 d_X6_isInitial_4 (by decide) rfl (fun c2_4 => ?_) (fun c2_4 => ?_)
  · -- taken at 4
    refine g_iconst hF (v := 0) d_X6_isInitial_11 (by decide) ?_
    exact g_zret hF rfl (k_nz (Or.inl rfl)) d_X6_isInitial_12 ⟨rfl, rfl, (0 : Int32), rfl, (Or.inl rfl), rfl⟩
  · -- not taken at 4
    refine g_iconst hF (v := 1) d_X6_isInitial_7 (by decide) ?_
    refine g_goto hF 12 d_X6_isInitial_8 (by decide) ?_
    exact g_zret hF rfl (k_nz (Or.inr rfl)) d_X6_isInitial_12 ⟨rfl, rfl, (1 : Int32), rfl, (Or.inr rfl), rfl⟩
set_option maxHeartbeats 4000000 in
set_option maxRecDepth 100000 in
theorem c_X0_header (a : Nat → Nat) (g : Nat → Nat → Int32) (r : Nat → Nat) (σ0 : St) (i0 : Inv σ0) (l : Launch) (D : va_G) (cy : Nat → ClassId) : Ct l D cy SC r (EC a g) y_X0_header (Cond.code y_X0_header b_X0_header 2 (some .int)) 0 [.ref (r 4)] σ0 Z0 [] (QI (fun _ σ9 => (Inv σ9 ∧ Keep [(4, 1)] [] σ0 σ9))) QF := by
  refine Ct_of (EC_ok a g) (by decide) (Nat.le_of_ble_eq_true rfl) (by decide) (fun X hnn hF => ?_)
  show G SC r X σ0 Z0 [] [(0, .ref (r 4))] [] 0
  have kp : Keep [(4, 1)] [] σ0 σ0 := keep_rf
  refine g_aload_n hF d_X0_header_0 rfl 0 rfl ?_
  refine g_get (v := .int (σ0 4 1)) hF 1 obC_4 (by decide) m_152 rfl d_X0_header_1 ?_
  refine g_istore_n hF [(1, .int (σ0 4 1)), (0, .ref (r 4))] d_X0_header_4 rfl hnn (by decide) rfl ?_
  refine g_aload_n hF d_X0_header_5 rfl 1 rfl ?_
  refine g_dup hF d_X0_header_6 rfl ?_
  refine g_get (v := .int (σ0 4 1)) hF 1 obC_4 (by decide) m_152 rfl d_X0_header_7 ?_
  refine g_iload_n hF d_X0_header_10 rfl 0 rfl ?_
  refine g_aload_n hF d_X0_header_11 rfl 1 rfl ?_
  refine g_get (v := .ref (r 24)) hF 0 obC_4 (by decide) m_149 rfl d_X0_header_12 ?_
  refine g_alen hF arC_24 (fun _ => ⟨1, _, rfl⟩) (v := 262208) (by decide) d_X0_header_15 ?_
  refine g_iconst hF (v := 4) d_X0_header_16 (by decide) ?_
  refine g_isub hF d_X0_header_17 ?_
  refine g_top (v := 262204) (by decide) ?_
  refine g_icmp_ge (yv := 262204) hF 25 d_X0_header_18 (by decide) rfl (by decide) (fun c1_18 => ?_) (fun c1_18 => ?_)
  · -- taken at 18
    refine g_iconst hF (v := 0) d_X0_header_25 (by decide) ?_
    refine g_iadd hF d_X0_header_26 ?_
    refine g_put (v := ((σ0 4 1) + 0)) hF 1 obC_4 (by decide) m_152 rfl rfl rfl d_X0_header_27 ?_
    have kp : Keep [(4, 1)] [] σ0 (upC σ0 4 1 ((σ0 4 1) + 0)) := keep_f kp (by decide)
    refine g_iload_n hF d_X0_header_30 rfl 0 rfl ?_
    have j2 : Inv (upC σ0 4 1 ((σ0 4 1) + 0)) := ⟨i0.1, i0.2.1, i0.2.2.1, i0.2.2.2.1, i0.2.2.2.2.1, i0.2.2.2.2.2.1, i0.2.2.2.2.2.2.1, i0.2.2.2.2.2.2.2.1, i0.2.2.2.2.2.2.2.2.1, i0.2.2.2.2.2.2.2.2.2.1, i0.2.2.2.2.2.2.2.2.2.2.1, i0.2.2.2.2.2.2.2.2.2.2.2.1, i0.2.2.2.2.2.2.2.2.2.2.2.2.1, i0.2.2.2.2.2.2.2.2.2.2.2.2.2.1, i0.2.2.2.2.2.2.2.2.2.2.2.2.2.2.1, i0.2.2.2.2.2.2.2.2.2.2.2.2.2.2.2.1, i0.2.2.2.2.2.2.2.2.2.2.2.2.2.2.2.2.1, i0.2.2.2.2.2.2.2.2.2.2.2.2.2.2.2.2.2.1, i0.2.2.2.2.2.2.2.2.2.2.2.2.2.2.2.2.2.2.1, i0.2.2.2.2.2.2.2.2.2.2.2.2.2.2.2.2.2.2.2⟩
    exact g_iret hF rfl d_X0_header_31 ⟨rfl, rfl, (σ0 4 1), rfl, ⟨j2, kp⟩⟩
  · -- not taken at 18
    refine g_iconst hF (v := 4) d_X0_header_21 (by decide) ?_
    refine g_goto hF 26 d_X0_header_22 (by decide) ?_
    refine g_iadd hF d_X0_header_26 ?_
    refine g_put (v := ((σ0 4 1) + 4)) hF 1 obC_4 (by decide) m_152 rfl rfl rfl d_X0_header_27 ?_
    have kp : Keep [(4, 1)] [] σ0 (upC σ0 4 1 ((σ0 4 1) + 4)) := keep_f kp (by decide)
    refine g_iload_n hF d_X0_header_30 rfl 0 rfl ?_
    have j3 : Inv (upC σ0 4 1 ((σ0 4 1) + 4)) := ⟨i0.1, i0.2.1, i0.2.2.1, i0.2.2.2.1, i0.2.2.2.2.1, i0.2.2.2.2.2.1, i0.2.2.2.2.2.2.1, i0.2.2.2.2.2.2.2.1, i0.2.2.2.2.2.2.2.2.1, i0.2.2.2.2.2.2.2.2.2.1, i0.2.2.2.2.2.2.2.2.2.2.1, i0.2.2.2.2.2.2.2.2.2.2.2.1, i0.2.2.2.2.2.2.2.2.2.2.2.2.1, i0.2.2.2.2.2.2.2.2.2.2.2.2.2.1, i0.2.2.2.2.2.2.2.2.2.2.2.2.2.2.1, i0.2.2.2.2.2.2.2.2.2.2.2.2.2.2.2.1, i0.2.2.2.2.2.2.2.2.2.2.2.2.2.2.2.2.1, i0.2.2.2.2.2.2.2.2.2.2.2.2.2.2.2.2.2.1, i0.2.2.2.2.2.2.2.2.2.2.2.2.2.2.2.2.2.2.1, i0.2.2.2.2.2.2.2.2.2.2.2.2.2.2.2.2.2.2.2⟩
    exact g_iret hF rfl d_X0_header_31 ⟨rfl, rfl, (σ0 4 1), rfl, ⟨j3, kp⟩⟩
set_option maxHeartbeats 4000000 in
set_option maxRecDepth 100000 in
theorem c_X11_enter (a : Nat → Nat) (g : Nat → Nat → Int32) (r : Nat → Nat) (σ0 : St) (a1 : Int32) (i0 : Inv σ0) (l : Launch) (D : va_G) (cy : Nat → ClassId) : Ct l D cy SC r (EC a g) y_X11_enter (Cond.code y_X11_enter b_X11_enter 2 none) 2 [.ref (r 6), .int a1] σ0 Z0 [] (QV (fun σ9 => (((σ9 6 17).toInt = 1 ∧ (σ9 6 10).toInt = 0) ∧ Inv σ9 ∧ Keep [(6, 6), (6, 10), (6, 15), (6, 17)] [45] σ0 σ9))) QF := by
  refine Ct_of (EC_ok a g) (by decide) (Nat.le_of_ble_eq_true rfl) (by decide) (fun X hnn hF => ?_)
  show G SC r X σ0 Z0 [] [(0, .ref (r 6)), (1, .int a1)] [] 0
  have kp : Keep [(6, 6), (6, 10), (6, 15), (6, 17)] [45] σ0 σ0 := keep_rf
  refine g_aload_n hF d_X11_enter_0 rfl 0 rfl ?_
  refine g_callV (As := []) (rest := []) hF (c_X11_leave a g r σ0 i0) (Nat.le_of_ble_eq_true rfl) mV_X11_leave m_1045 (recv_ob obC_6) rfl rfl (Nat.le_of_ble_eq_true rfl) d_X11_enter_1 (k_v (fun σ1 ⟨hs1, iσ1, ik1⟩ => ?_)) (fun _ _ _ h => h.elim)
  have hs1 : (σ1 6 17).toInt = 0 ∧ (σ1 6 10).toInt = 0 := hs1
  have kp : Keep [(6, 6), (6, 10), (6, 15), (6, 17)] [45] σ0 σ1 := keep_c kp ik1 (by decide) (by decide)
  refine g_aload_n hF d_X11_enter_4 rfl 0 rfl ?_
  refine g_iload_n hF d_X11_enter_5 rfl 1 rfl ?_
  refine g_put (v := a1) hF 6 obC_6 (by decide) m_324 rfl rfl rfl d_X11_enter_6 ?_
  have kp : Keep [(6, 6), (6, 10), (6, 15), (6, 17)] [45] σ0 (upC σ1 6 6 a1) := keep_f kp (by decide)
  refine g_aload_n hF d_X11_enter_9 rfl 0 rfl ?_
  have j3 : Inv (upC σ1 6 6 a1) := ⟨iσ1.1, iσ1.2.1, iσ1.2.2.1, iσ1.2.2.2.1, iσ1.2.2.2.2.1, iσ1.2.2.2.2.2.1, iσ1.2.2.2.2.2.2.1, iσ1.2.2.2.2.2.2.2.1, iσ1.2.2.2.2.2.2.2.2.1, iσ1.2.2.2.2.2.2.2.2.2.1, iσ1.2.2.2.2.2.2.2.2.2.2.1, iσ1.2.2.2.2.2.2.2.2.2.2.2.1, iσ1.2.2.2.2.2.2.2.2.2.2.2.2.1, iσ1.2.2.2.2.2.2.2.2.2.2.2.2.2.1, iσ1.2.2.2.2.2.2.2.2.2.2.2.2.2.2.1, iσ1.2.2.2.2.2.2.2.2.2.2.2.2.2.2.2.1, iσ1.2.2.2.2.2.2.2.2.2.2.2.2.2.2.2.2.1, iσ1.2.2.2.2.2.2.2.2.2.2.2.2.2.2.2.2.2.1, iσ1.2.2.2.2.2.2.2.2.2.2.2.2.2.2.2.2.2.2.1, iσ1.2.2.2.2.2.2.2.2.2.2.2.2.2.2.2.2.2.2.2⟩
  refine g_callV (As := []) (rest := []) hF (c_X11_open a g r (upC σ1 6 6 a1) (by show -100000 ≤ (σ1 6 17).toInt ∧ (σ1 6 17).toInt ≤ 100000; have e0 := s_rng (σ1 6 17); have e1 := s_rng (σ0 6 17); omega) j3) (Nat.le_of_ble_eq_true rfl) mV_X11_open m_1453 (recv_ob obC_6) rfl rfl (Nat.le_of_ble_eq_true rfl) d_X11_enter_10 (k_v (fun σ2 ⟨hs2, iσ2, ik2⟩ => ?_)) (fun _ _ _ h => h.elim)
  have hs2 : (σ2 6 17).toInt = (σ1 6 17).toInt + 1 := hs2
  have kp : Keep [(6, 6), (6, 10), (6, 15), (6, 17)] [45] σ0 σ2 := keep_c kp ik2 (by decide) (by decide)
  exact g_vret hF rfl d_X11_enter_13 ⟨rfl, rfl, rfl, ⟨(by rw [show (σ2 6 10) = (σ1 6 10) from (ik2 6 10 rfl rfl rfl)]; show (σ2 6 17).toInt = 1 ∧ (σ1 6 10).toInt = 0; have e0 := s_rng (σ2 6 17); have e1 := s_rng (σ0 6 17); have e2 := s_rng (σ1 6 10); have e3 := iσ1.2.2.2.2.2.1; have e4 := s_rng (σ0 6 10); have e5 := i0.2.2.2.2.2.1; omega), iσ2, kp⟩⟩
set_option maxHeartbeats 4000000 in
set_option maxRecDepth 100000 in
theorem c_X11_finish (a : Nat → Nat) (g : Nat → Nat → Int32) (r : Nat → Nat) (σ0 : St) (i0 : Inv σ0) (l : Launch) (D : va_G) (cy : Nat → ClassId) : Ct l D cy SC r (EC a g) y_X11_finish (Cond.code y_X11_finish b_X11_finish 6 none) 2 [.ref (r 6)] σ0 Z0 [] (QV (fun σ9 => (Inv σ9 ∧ Keep [(6, 3), (6, 4)] [] σ0 σ9))) QF := by
  refine Ct_of (EC_ok a g) (by decide) (Nat.le_of_ble_eq_true rfl) (by decide) (fun X hnn hF => ?_)
  show G SC r X σ0 Z0 [] [(0, .ref (r 6))] [] 0
  have b4 : ∀ (N : Nat) (σ : St) (x1 : Int32) (x2 : Int32) , upm x2 = N → Inv σ → Keep [(6, 3), (6, 4)] [] σ0 σ → G SC r X σ Z0 [] [(0, .ref (r 6)), (1, .int x1), (2, .int x2)] [] 4 := by
    intro M4
    induction M4 using Nat.strongRecOn with
    | _ M4 ih4 =>
      intro σ x1 x2 N4 inv kp
      refine g_iload_n hF d_X11_finish_4 rfl 2 rfl ?_
      refine g_aload_n hF d_X11_finish_5 rfl 0 rfl ?_
      refine g_get (v := .int (σ 6 7)) hF 7 obC_6 (by decide) m_327 rfl d_X11_finish_6 ?_
      refine g_icmp_ge hF 97 d_X11_finish_9 (by decide) rfl rfl (fun c1_9 => ?_) (fun c1_9 => ?_)
      · -- taken at 9
        refine g_iload_n hF d_X11_finish_97 rfl 1 rfl ?_
        refine g_if_lt hF 107 d_X11_finish_98 (by decide) rfl (fun c2_98 => ?_) (fun c2_98 => ?_)
        · -- taken at 98
          exact g_vret hF rfl d_X11_finish_107 ⟨rfl, rfl, rfl, ⟨inv, kp⟩⟩
        · -- not taken at 98
          refine g_aload_n hF d_X11_finish_101 rfl 0 rfl ?_
          refine g_iconst hF (v := 2) d_X11_finish_102 (by decide) ?_
          refine g_iload_n hF d_X11_finish_103 rfl 1 rfl ?_
          refine g_callV (As := [.int 2, .int x1]) (rest := []) hF (c_X11_fail a g r σ (2 : Int32) x1 inv) (Nat.le_of_ble_eq_true rfl) mV_X11_fail m_1487 (recv_ob obC_6) rfl rfl (Nat.le_of_ble_eq_true rfl) d_X11_finish_104 (k_v (fun σ3 ⟨iσ3, ik3⟩ => ?_)) (fun _ _ _ h => h.elim)
          have kp : Keep [(6, 3), (6, 4)] [] σ0 σ3 := keep_c kp ik3 (by decide) (by decide)
          exact g_vret hF rfl d_X11_finish_107 ⟨rfl, rfl, rfl, ⟨iσ3, kp⟩⟩
      · -- not taken at 9
        refine g_aload_n hF d_X11_finish_12 rfl 0 rfl ?_
        refine g_get (v := .ref (r 5)) hF 1 obC_6 (by decide) m_309 rfl d_X11_finish_13 ?_
        refine g_getN (v := .int (σ 5 1)) hF 1 obC_5 (by decide) nm_223 rfl d_X11_finish_16 ?_
        refine g_aload_n hF d_X11_finish_19 rfl 0 rfl ?_
        refine g_get (v := .int (σ 6 7)) hF 7 obC_6 (by decide) m_327 rfl d_X11_finish_20 ?_
        refine g_isub hF d_X11_finish_23 ?_
        refine g_iload_n hF d_X11_finish_24 rfl 2 rfl ?_
        refine g_iadd hF d_X11_finish_25 ?_
        refine g_istore_n hF [(3, .int (((σ 5 1) - (σ 6 7)) + x2)), (0, .ref (r 6)), (1, .int x1), (2, .int x2)] d_X11_finish_26 rfl hnn (by decide) rfl ?_
        refine g_aload_n hF d_X11_finish_27 rfl 1 rfl ?_
        refine g_get (v := .ref (r 39)) hF 9 obC_6 (by decide) m_330 rfl d_X11_finish_28 ?_
        refine g_iload_n hF d_X11_finish_31 rfl 3 rfl ?_
        refine g_callSN (As := [.ref (r 39), .int x2]) (rest := []) hF (c_at a g r σ arC_39 (by decide) x2) (Nat.le_of_ble_eq_true rfl) mS_X12_at nm_1112 rfl rfl (Nat.le_of_ble_eq_true rfl) d_X11_finish_32 (k_rop (fun r4 hr4 => ?_))
        refine g_istore hF [(4, .int r4), (3, .int (((σ 5 1) - (σ 6 7)) + x2)), (0, .ref (r 6)), (1, .int x1), (2, .int x2)] d_X11_finish_35 hnn (by decide) rfl ?_
        refine g_aload_n hF d_X11_finish_37 rfl 2 rfl ?_
        refine g_get (v := .ref (r 5)) hF 1 obC_6 (by decide) m_309 rfl d_X11_finish_38 ?_
        refine g_iload_n hF d_X11_finish_41 rfl 1 rfl ?_
        refine g_iconst hF (v := 2) d_X11_finish_42 (by decide) ?_
        refine g_callVN (As := [.int (((σ 5 1) - (σ 6 7)) + x2), .int 2]) (rest := []) hF (c_X8_is a g r σ (((σ 5 1) - (σ 6 7)) + x2) (2 : Int32) inv) (Nat.le_of_ble_eq_true rfl) mV_X8_is nm_1486 (recv_ob obC_5) rfl rfl (Nat.le_of_ble_eq_true rfl) d_X11_finish_43 (k_roz (fun r5 hz5 => ?_))
        refine g_if_eq hF 65 d_X11_finish_46 (by decide) rfl (fun c6_46 => ?_) (fun c6_46 => ?_)
        · -- taken at 46
          refine g_iconst hF (v := 0) d_X11_finish_65 (by decide) ?_
          refine g_istore hF [(5, .int 0), (4, .int r4), (3, .int (((σ 5 1) - (σ 6 7)) + x2)), (0, .ref (r 6)), (1, .int x1), (2, .int x2)] d_X11_finish_66 hnn (by decide) rfl ?_
          refine g_iload hF d_X11_finish_68 0 rfl ?_
          refine g_if_eq (xv := 0) hF 91 d_X11_finish_70 (by decide) (by decide) (fun _ => ?_) (fun c_70 => absurd c_70 (by decide))
          refine g_iinc hF (x2 + 1) [(2, .int (x2 + 1)), (5, .int 0), (4, .int r4), (3, .int (((σ 5 1) - (σ 6 7)) + x2)), (0, .ref (r 6)), (1, .int x1)] d_X11_finish_91 5 rfl rfl hnn (by decide) rfl ?_
          refine g_goto hF 4 d_X11_finish_94 (by decide) ?_
          exact g_sub (L' := [(0, .ref (r 6)), (1, .int x1), (2, .int (x2 + 1))]) [4, 5, 0] rfl (ih4 _ (N4 ▸ upm_lt c1_9 (s_rng (σ 6 7)).2) σ x1 (x2 + 1) rfl inv kp)
        · -- not taken at 46
          refine g_aload_n hF d_X11_finish_49 rfl 2 rfl ?_
          refine g_get (v := .ref (r 5)) hF 1 obC_6 (by decide) m_309 rfl d_X11_finish_50 ?_
          refine g_iload_n hF d_X11_finish_53 rfl 1 rfl ?_
          refine g_iconst hF (v := 4) d_X11_finish_54 (by decide) ?_
          refine g_callVN (As := [.int (((σ 5 1) - (σ 6 7)) + x2), .int 4]) (rest := []) hF (c_X8_is a g r σ (((σ 5 1) - (σ 6 7)) + x2) (4 : Int32) inv) (Nat.le_of_ble_eq_true rfl) mV_X8_is nm_1486 (recv_ob obC_5) rfl rfl (Nat.le_of_ble_eq_true rfl) d_X11_finish_55 (k_roz (fun r7 hz7 => ?_))
          refine g_if_ne hF 65 d_X11_finish_58 (by decide) rfl (fun c8_58 => ?_) (fun c8_58 => ?_)
          · -- taken at 58
            refine g_iconst hF (v := 0) d_X11_finish_65 (by decide) ?_
            refine g_istore hF [(5, .int 0), (4, .int r4), (3, .int (((σ 5 1) - (σ 6 7)) + x2)), (0, .ref (r 6)), (1, .int x1), (2, .int x2)] d_X11_finish_66 hnn (by decide) rfl ?_
            refine g_iload hF d_X11_finish_68 0 rfl ?_
            refine g_if_eq (xv := 0) hF 91 d_X11_finish_70 (by decide) (by decide) (fun _ => ?_) (fun c_70 => absurd c_70 (by decide))
            refine g_iinc hF (x2 + 1) [(2, .int (x2 + 1)), (5, .int 0), (4, .int r4), (3, .int (((σ 5 1) - (σ 6 7)) + x2)), (0, .ref (r 6)), (1, .int x1)] d_X11_finish_91 5 rfl rfl hnn (by decide) rfl ?_
            refine g_goto hF 4 d_X11_finish_94 (by decide) ?_
            exact g_sub (L' := [(0, .ref (r 6)), (1, .int x1), (2, .int (x2 + 1))]) [4, 5, 0] rfl (ih4 _ (N4 ▸ upm_lt c1_9 (s_rng (σ 6 7)).2) σ x1 (x2 + 1) rfl inv kp)
          · -- not taken at 58
            refine g_iconst hF (v := 1) d_X11_finish_61 (by decide) ?_
            refine g_goto hF 66 d_X11_finish_62 (by decide) ?_
            refine g_istore hF [(5, .int 1), (4, .int r4), (3, .int (((σ 5 1) - (σ 6 7)) + x2)), (0, .ref (r 6)), (1, .int x1), (2, .int x2)] d_X11_finish_66 hnn (by decide) rfl ?_
            refine g_iload hF d_X11_finish_68 0 rfl ?_
            refine g_if_eq (xv := 1) hF 91 d_X11_finish_70 (by decide) (by decide) (fun c_70 => absurd c_70 (by decide)) (fun _ => ?_)
            refine g_iload hF d_X11_finish_73 1 rfl ?_
            refine g_if_lt hF 91 d_X11_finish_75 (by decide) rfl (fun c9_75 => ?_) (fun c9_75 => ?_)
            · -- taken at 75
              refine g_iinc hF (x2 + 1) [(2, .int (x2 + 1)), (5, .int 1), (4, .int r4), (3, .int (((σ 5 1) - (σ 6 7)) + x2)), (0, .ref (r 6)), (1, .int x1)] d_X11_finish_91 5 rfl rfl hnn (by decide) rfl ?_
              refine g_goto hF 4 d_X11_finish_94 (by decide) ?_
              exact g_sub (L' := [(0, .ref (r 6)), (1, .int x1), (2, .int (x2 + 1))]) [4, 5, 0] rfl (ih4 _ (N4 ▸ upm_lt c1_9 (s_rng (σ 6 7)).2) σ x1 (x2 + 1) rfl inv kp)
            · -- not taken at 75
              refine g_iload_n hF d_X11_finish_78 rfl 4 rfl ?_
              refine g_if_lt hF 88 d_X11_finish_79 (by decide) rfl (fun c10_79 => ?_) (fun c10_79 => ?_)
              · -- taken at 79
                refine g_iload hF d_X11_finish_88 1 rfl ?_
                refine g_istore_n hF [(1, .int r4), (5, .int 1), (4, .int r4), (3, .int (((σ 5 1) - (σ 6 7)) + x2)), (0, .ref (r 6)), (2, .int x2)] d_X11_finish_90 rfl hnn (by decide) rfl ?_
                refine g_iinc hF (x2 + 1) [(2, .int (x2 + 1)), (1, .int r4), (5, .int 1), (4, .int r4), (3, .int (((σ 5 1) - (σ 6 7)) + x2)), (0, .ref (r 6))] d_X11_finish_91 5 rfl rfl hnn (by decide) rfl ?_
                refine g_goto hF 4 d_X11_finish_94 (by decide) ?_
                exact g_sub (L' := [(0, .ref (r 6)), (1, .int r4), (2, .int (x2 + 1))]) [5, 1, 0] rfl (ih4 _ (N4 ▸ upm_lt c1_9 (s_rng (σ 6 7)).2) σ r4 (x2 + 1) rfl inv kp)
              · -- not taken at 79
                refine g_iload hF d_X11_finish_82 1 rfl ?_
                refine g_iload_n hF d_X11_finish_84 rfl 4 rfl ?_
                refine g_icmp_ge hF 91 d_X11_finish_85 (by decide) rfl rfl (fun c11_85 => ?_) (fun c11_85 => ?_)
                · -- taken at 85
                  refine g_iinc hF (x2 + 1) [(2, .int (x2 + 1)), (5, .int 1), (4, .int r4), (3, .int (((σ 5 1) - (σ 6 7)) + x2)), (0, .ref (r 6)), (1, .int x1)] d_X11_finish_91 5 rfl rfl hnn (by decide) rfl ?_
                  refine g_goto hF 4 d_X11_finish_94 (by decide) ?_
                  exact g_sub (L' := [(0, .ref (r 6)), (1, .int x1), (2, .int (x2 + 1))]) [4, 5, 0] rfl (ih4 _ (N4 ▸ upm_lt c1_9 (s_rng (σ 6 7)).2) σ x1 (x2 + 1) rfl inv kp)
                · -- not taken at 85
                  refine g_iload hF d_X11_finish_88 1 rfl ?_
                  refine g_istore_n hF [(1, .int r4), (5, .int 1), (4, .int r4), (3, .int (((σ 5 1) - (σ 6 7)) + x2)), (0, .ref (r 6)), (2, .int x2)] d_X11_finish_90 rfl hnn (by decide) rfl ?_
                  refine g_iinc hF (x2 + 1) [(2, .int (x2 + 1)), (1, .int r4), (5, .int 1), (4, .int r4), (3, .int (((σ 5 1) - (σ 6 7)) + x2)), (0, .ref (r 6))] d_X11_finish_91 5 rfl rfl hnn (by decide) rfl ?_
                  refine g_goto hF 4 d_X11_finish_94 (by decide) ?_
                  exact g_sub (L' := [(0, .ref (r 6)), (1, .int r4), (2, .int (x2 + 1))]) [5, 1, 0] rfl (ih4 _ (N4 ▸ upm_lt c1_9 (s_rng (σ 6 7)).2) σ r4 (x2 + 1) rfl inv kp)
  have kp : Keep [(6, 3), (6, 4)] [] σ0 σ0 := keep_rf
  refine g_iconst hF (v := (-1)) d_X11_finish_0 (by decide) ?_
  refine g_istore_n hF [(1, .int (-1)), (0, .ref (r 6))] d_X11_finish_1 rfl hnn (by decide) rfl ?_
  refine g_iconst hF (v := 0) d_X11_finish_2 (by decide) ?_
  refine g_istore_n hF [(2, .int 0), (1, .int (-1)), (0, .ref (r 6))] d_X11_finish_3 rfl hnn (by decide) rfl ?_
  exact g_sub (L' := [(0, .ref (r 6)), (1, .int (-1)), (2, .int 0)]) [2, 1, 0] rfl (b4 _ σ0 ((-1) : Int32) (0 : Int32) rfl i0 kp)
set_option maxHeartbeats 4000000 in
set_option maxRecDepth 100000 in
theorem c_X8_nameStart (a : Nat → Nat) (g : Nat → Nat → Int32) (r : Nat → Nat) (σ0 : St) (a1 : Int32) (i0 : Inv σ0) (l : Launch) (D : va_G) (cy : Nat → ClassId) : Ct l D cy SC r (EC a g) y_X8_nameStart (Cond.code y_X8_nameStart b_X8_nameStart 2 (some .int)) 1 [.ref (r 5), .int a1] σ0 Z0 [] (QI (fun v9 σ9 => ((0 ≤ v9.toInt ∧ v9.toInt ≤ 65600) ∧ σ9 = σ0))) QF := by
  refine Ct_of (EC_ok a g) (by decide) (Nat.le_of_ble_eq_true rfl) (by decide) (fun X hnn hF => ?_)
  show G SC r X σ0 Z0 [] [(0, .ref (r 5)), (1, .int a1)] [] 0
  refine g_aload_n hF d_X8_nameStart_0 rfl 0 rfl ?_
  refine g_get (v := .ref (r 29)) hF 6 obC_5 (by decide) m_237 rfl d_X8_nameStart_1 ?_
  refine g_iload_n hF d_X8_nameStart_4 rfl 1 rfl ?_
  refine g_iconst hF (v := 1) d_X8_nameStart_5 (by decide) ?_
  refine g_isub hF d_X8_nameStart_6 ?_
  refine g_callSN (As := [.ref (r 29), .int (a1 - 1)]) (rest := []) hF (c_at a g r σ0 arC_29 (by decide) (a1 - 1)) (Nat.le_of_ble_eq_true rfl) mS_X12_at nm_1125 rfl rfl (Nat.le_of_ble_eq_true rfl) d_X8_nameStart_7 (k_rop (fun r1 hr1 => ?_))
  have hr1 : 0 ≤ r1.toInt ∧ r1.toInt ≤ 65600 := acr_at i0.2.2.2.2.2.2.2.2.2.2.2.2.2.2.2.1 (by decide) (by decide) (hr1.imp And.left (fun h => ⟨_, h.2⟩))
  exact g_iret hF rfl d_X8_nameStart_10 ⟨rfl, rfl, r1, rfl, ⟨(by show 0 ≤ r1.toInt ∧ r1.toInt ≤ 65600; have e0 := s_rng r1; omega), rfl⟩⟩
set_option maxHeartbeats 4000000 in
set_option maxRecDepth 100000 in
theorem c_X8_keep (a : Nat → Nat) (g : Nat → Nat → Int32) (r : Nat → Nat) (σ0 : St) (a1 : Int32) (hpre : (σ0 5 13).toInt < 100) (i0 : Inv σ0) (l : Launch) (D : va_G) (cy : Nat → ClassId) : Ct l D cy SC r (EC a g) y_X8_keep (Cond.code y_X8_keep b_X8_keep 2 (some .int)) 1 [.ref (r 5), .int a1] σ0 Z0 [] (QI (fun _ σ9 => (Inv σ9 ∧ Keep [(5, 13)] [34, 35, 36, 37] σ0 σ9))) QF := by
  refine Ct_of (EC_ok a g) (by decide) (Nat.le_of_ble_eq_true rfl) (by decide) (fun X hnn hF => ?_)
  show G SC r X σ0 Z0 [] [(0, .ref (r 5)), (1, .int a1)] [] 0
  have kp : Keep [(5, 13)] [34, 35, 36, 37] σ0 σ0 := keep_rf
  refine g_aload_n hF d_X8_keep_0 rfl 0 rfl ?_
  refine g_dup hF d_X8_keep_1 rfl ?_
  refine g_get (v := .int (σ0 5 13)) hF 13 obC_5 (by decide) m_249 rfl d_X8_keep_2 ?_
  refine g_iconst hF (v := 1) d_X8_keep_5 (by decide) ?_
  refine g_iadd hF d_X8_keep_6 ?_
  refine g_put (v := ((σ0 5 13) + 1)) hF 13 obC_5 (by decide) m_249 rfl rfl rfl d_X8_keep_7 ?_
  have kp : Keep [(5, 13)] [34, 35, 36, 37] σ0 (upC σ0 5 13 ((σ0 5 13) + 1)) := keep_f kp (by decide)
  have p1 : 0 ≤ ((σ0 5 13) + 1).toInt ∧ ((σ0 5 13) + 1).toInt ≤ 100 := (by have e0 := s_rng (σ0 5 13); have e1 := i0.2.2.2.2.2.2.2.2.2.2.2.2.1; have e2 : (1 : Int32).toInt = 1 := (by decide); obtain ⟨k3, e3⟩ := s_add (σ0 5 13) (1 : Int32); have e3a := s_rng ((σ0 5 13) + 1); omega)
  refine g_aload_n hF d_X8_keep_10 rfl 0 rfl ?_
  refine g_get (v := .ref (r 34)) hF 14 obC_5 (by decide) m_252 rfl d_X8_keep_11 ?_
  refine g_aload_n hF d_X8_keep_14 rfl 0 rfl ?_
  refine g_get (v := .int ((σ0 5 13) + 1)) hF 13 obC_5 (by decide) m_249 rfl d_X8_keep_15 ?_
  refine g_aload_n hF d_X8_keep_18 rfl 0 rfl ?_
  refine g_get (v := .int (σ0 5 1)) hF 1 obC_5 (by decide) m_222 rfl d_X8_keep_19 ?_
  refine g_callSN (As := [.ref (r 34), .int ((σ0 5 13) + 1), .int (σ0 5 1)]) (rest := []) hF (c_set a g r (upC σ0 5 13 ((σ0 5 13) + 1)) arC_34 (by decide) ((σ0 5 13) + 1) (σ0 5 1)) (Nat.le_of_ble_eq_true rfl) mS_X12_set nm_1098 rfl rfl (Nat.le_of_ble_eq_true rfl) d_X8_keep_22 (k_v (fun σ2 ⟨g2, eσ2, hg2⟩ => ?_))
  subst eσ2
  have kp : Keep [(5, 13)] [34, 35, 36, 37] σ0 (upF (upC σ0 5 13 ((σ0 5 13) + 1)) 34 g2) := keep_F kp (by decide)
  have p3 : AllIn 0 10100 ((upF (upC σ0 5 13 ((σ0 5 13) + 1)) 34 g2) 34) := (acr_set i0.2.2.2.2.2.2.2.2.2.2.2.2.2.1 hg2.1 (by show 0 ≤ (σ0 5 1).toInt ∧ (σ0 5 1).toInt ≤ 10100; have e0 := s_rng (σ0 5 1); have e1 := i0.2.2.1; omega))
  refine g_aload_n hF d_X8_keep_25 rfl 0 rfl ?_
  refine g_get (v := .ref (r 35)) hF 15 obC_5 (by decide) m_254 rfl d_X8_keep_26 ?_
  refine g_aload_n hF d_X8_keep_29 rfl 0 rfl ?_
  refine g_get (v := .int ((σ0 5 13) + 1)) hF 13 obC_5 (by decide) m_249 rfl d_X8_keep_30 ?_
  refine g_aload_n hF d_X8_keep_33 rfl 0 rfl ?_
  refine g_get (v := .int (σ0 5 9)) hF 9 obC_5 (by decide) m_242 rfl d_X8_keep_34 ?_
  refine g_callSN (As := [.ref (r 35), .int ((σ0 5 13) + 1), .int (σ0 5 9)]) (rest := []) hF (c_set a g r (upF (upC σ0 5 13 ((σ0 5 13) + 1)) 34 g2) arC_35 (by decide) ((σ0 5 13) + 1) (σ0 5 9)) (Nat.le_of_ble_eq_true rfl) mS_X12_set nm_1098 rfl rfl (Nat.le_of_ble_eq_true rfl) d_X8_keep_37 (k_v (fun σ4 ⟨g4, eσ4, hg4⟩ => ?_))
  subst eσ4
  have kp : Keep [(5, 13)] [34, 35, 36, 37] σ0 (upF (upF (upC σ0 5 13 ((σ0 5 13) + 1)) 34 g2) 35 g4) := keep_F kp (by decide)
  refine g_aload_n hF d_X8_keep_40 rfl 0 rfl ?_
  refine g_get (v := .ref (r 36)) hF 16 obC_5 (by decide) m_256 rfl d_X8_keep_41 ?_
  refine g_aload_n hF d_X8_keep_44 rfl 0 rfl ?_
  refine g_get (v := .int ((σ0 5 13) + 1)) hF 13 obC_5 (by decide) m_249 rfl d_X8_keep_45 ?_
  refine g_aload_n hF d_X8_keep_48 rfl 0 rfl ?_
  refine g_get (v := .ref (r 4)) hF 0 obC_5 (by decide) m_221 rfl d_X8_keep_49 ?_
  refine g_getN (v := .int (σ0 4 1)) hF 1 obC_4 (by decide) nm_156 rfl d_X8_keep_52 ?_
  refine g_callSN (As := [.ref (r 36), .int ((σ0 5 13) + 1), .int (σ0 4 1)]) (rest := []) hF (c_set a g r (upF (upF (upC σ0 5 13 ((σ0 5 13) + 1)) 34 g2) 35 g4) arC_36 (by decide) ((σ0 5 13) + 1) (σ0 4 1)) (Nat.le_of_ble_eq_true rfl) mS_X12_set nm_1098 rfl rfl (Nat.le_of_ble_eq_true rfl) d_X8_keep_55 (k_v (fun σ5 ⟨g5, eσ5, hg5⟩ => ?_))
  subst eσ5
  have kp : Keep [(5, 13)] [34, 35, 36, 37] σ0 (upF (upF (upF (upC σ0 5 13 ((σ0 5 13) + 1)) 34 g2) 35 g4) 36 g5) := keep_F kp (by decide)
  refine g_aload_n hF d_X8_keep_58 rfl 0 rfl ?_
  refine g_get (v := .ref (r 37)) hF 17 obC_5 (by decide) m_257 rfl d_X8_keep_59 ?_
  refine g_aload_n hF d_X8_keep_62 rfl 0 rfl ?_
  refine g_get (v := .int ((σ0 5 13) + 1)) hF 13 obC_5 (by decide) m_249 rfl d_X8_keep_63 ?_
  refine g_iload_n hF d_X8_keep_66 rfl 1 rfl ?_
  refine g_callSN (As := [.ref (r 37), .int ((σ0 5 13) + 1), .int a1]) (rest := []) hF (c_set a g r (upF (upF (upF (upC σ0 5 13 ((σ0 5 13) + 1)) 34 g2) 35 g4) 36 g5) arC_37 (by decide) ((σ0 5 13) + 1) a1) (Nat.le_of_ble_eq_true rfl) mS_X12_set nm_1098 rfl rfl (Nat.le_of_ble_eq_true rfl) d_X8_keep_67 (k_v (fun σ6 ⟨g6, eσ6, hg6⟩ => ?_))
  subst eσ6
  have kp : Keep [(5, 13)] [34, 35, 36, 37] σ0 (upF (upF (upF (upF (upC σ0 5 13 ((σ0 5 13) + 1)) 34 g2) 35 g4) 36 g5) 37 g6) := keep_F kp (by decide)
  refine g_aload_n hF d_X8_keep_70 rfl 0 rfl ?_
  refine g_get (v := .int ((σ0 5 13) + 1)) hF 13 obC_5 (by decide) m_249 rfl d_X8_keep_71 ?_
  have j7 : Inv (upF (upF (upF (upF (upC σ0 5 13 ((σ0 5 13) + 1)) 34 g2) 35 g4) 36 g5) 37 g6) := ⟨i0.1, i0.2.1, i0.2.2.1, i0.2.2.2.1, i0.2.2.2.2.1, i0.2.2.2.2.2.1, i0.2.2.2.2.2.2.1, i0.2.2.2.2.2.2.2.1, i0.2.2.2.2.2.2.2.2.1, i0.2.2.2.2.2.2.2.2.2.1, i0.2.2.2.2.2.2.2.2.2.2.1, i0.2.2.2.2.2.2.2.2.2.2.2.1, p1, p3, i0.2.2.2.2.2.2.2.2.2.2.2.2.2.2.1, i0.2.2.2.2.2.2.2.2.2.2.2.2.2.2.2.1, i0.2.2.2.2.2.2.2.2.2.2.2.2.2.2.2.2.1, i0.2.2.2.2.2.2.2.2.2.2.2.2.2.2.2.2.2.1, i0.2.2.2.2.2.2.2.2.2.2.2.2.2.2.2.2.2.2.1, i0.2.2.2.2.2.2.2.2.2.2.2.2.2.2.2.2.2.2.2⟩
  exact g_iret hF rfl d_X8_keep_74 ⟨rfl, rfl, ((σ0 5 13) + 1), rfl, ⟨j7, kp⟩⟩
set_option maxHeartbeats 4000000 in
set_option maxRecDepth 100000 in
theorem c_X12_place (a : Nat → Nat) (g : Nat → Nat → Int32) (r : Nat → Nat) (σ0 : St) (i0 : Inv σ0) (l : Launch) (D : va_G) (cy : Nat → ClassId) : Ct l D cy SC r (EC a g) y_X12_place (Cond.code y_X12_place b_X12_place 1 (some .int)) 0 [.ref (r 0)] σ0 Z0 [] (QI (fun _ σ9 => σ9 = σ0)) QF := by
  refine Ct_of (EC_ok a g) (by decide) (Nat.le_of_ble_eq_true rfl) (by decide) (fun X hnn hF => ?_)
  show G SC r X σ0 Z0 [] [(0, .ref (r 0))] [] 0
  refine g_aload_n hF d_X12_place_0 rfl 0 rfl ?_
  refine g_get (v := .int (σ0 0 3)) hF 3 obC_0 (by decide) m_738 rfl d_X12_place_1 ?_
  exact g_iret hF rfl d_X12_place_4 ⟨rfl, rfl, (σ0 0 3), rfl, rfl⟩
set_option maxHeartbeats 4000000 in
set_option maxRecDepth 100000 in
theorem c_X12_objects (a : Nat → Nat) (g : Nat → Nat → Int32) (r : Nat → Nat) (σ0 : St) (i0 : Inv σ0) (l : Launch) (D : va_G) (cy : Nat → ClassId) : Ct l D cy SC r (EC a g) y_X12_objects (Cond.code y_X12_objects b_X12_objects 1 (some .int)) 0 [.ref (r 0)] σ0 Z0 [] (QI (fun _ σ9 => σ9 = σ0)) QF := by
  refine Ct_of (EC_ok a g) (by decide) (Nat.le_of_ble_eq_true rfl) (by decide) (fun X hnn hF => ?_)
  show G SC r X σ0 Z0 [] [(0, .ref (r 0))] [] 0
  refine g_aload_n hF d_X12_objects_0 rfl 0 rfl ?_
  refine g_get (v := .ref (r 5)) hF 7 obC_0 (by decide) m_742 rfl d_X12_objects_1 ?_
  refine g_getN (v := .int (σ0 5 13)) hF 13 obC_5 (by decide) nm_250 rfl d_X12_objects_4 ?_
  exact g_iret hF rfl d_X12_objects_7 ⟨rfl, rfl, (σ0 5 13), rfl, rfl⟩
set_option maxHeartbeats 4000000 in
set_option maxRecDepth 100000 in
theorem c_X8_has (a : Nat → Nat) (g : Nat → Nat → Int32) (r : Nat → Nat) (σ0 : St) (a1 : Int32) (i0 : Inv σ0) (l : Launch) (D : va_G) (cy : Nat → ClassId) : Ct l D cy SC r (EC a g) y_X8_has (Cond.code y_X8_has b_X8_has 2 (some .boolean)) 0 [.ref (r 5), .int a1] σ0 Z0 [] (QI (fun v9 σ9 => (v9 = 0 ∨ v9 = 1) ∧ σ9 = σ0)) QF := by
  refine Ct_of (EC_ok a g) (by decide) (Nat.le_of_ble_eq_true rfl) (by decide) (fun X hnn hF => ?_)
  show G SC r X σ0 Z0 [] [(0, .ref (r 5)), (1, .int a1)] [] 0
  refine g_iload_n hF d_X8_has_0 rfl 1 rfl ?_
  refine g_iconst hF (v := 1) d_X8_has_1 (by decide) ?_
  refine g_icmp_lt (yv := 1) hF 17 d_X8_has_2 (by decide) rfl (by decide) (fun c1_2 => ?_) (fun c1_2 => ?_)
  · -- taken at 2
    refine g_iconst hF (v := 0) d_X8_has_17 (by decide) ?_
    exact g_zret hF rfl (k_nz (Or.inl rfl)) d_X8_has_18 ⟨rfl, rfl, (0 : Int32), rfl, (Or.inl rfl), rfl⟩
  · -- not taken at 2
    refine g_iload_n hF d_X8_has_5 rfl 1 rfl ?_
    refine g_aload_n hF d_X8_has_6 rfl 0 rfl ?_
    refine g_get (v := .int (σ0 5 13)) hF 13 obC_5 (by decide) m_249 rfl d_X8_has_7 ?_
    refine g_icmp_gt hF 17 d_X8_has_10 (by decide) rfl rfl (fun c2_10 => ?_) (fun c2_10 => ?_)
    · -- taken at 10
      refine g_iconst hF (v := 0) d_X8_has_17 (by decide) ?_
      exact g_zret hF rfl (k_nz (Or.inl rfl)) d_X8_has_18 ⟨rfl, rfl, (0 : Int32), rfl, (Or.inl rfl), rfl⟩
    · -- not taken at 10
      refine g_iconst hF (v := 1) d_X8_has_13 (by decide) ?_
      refine g_goto hF 18 d_X8_has_14 (by decide) ?_
      exact g_zret hF rfl (k_nz (Or.inr rfl)) d_X8_has_18 ⟨rfl, rfl, (1 : Int32), rfl, (Or.inr rfl), rfl⟩
set_option maxHeartbeats 4000000 in
set_option maxRecDepth 100000 in
theorem c_X8_firstOf (a : Nat → Nat) (g : Nat → Nat → Int32) (r : Nat → Nat) (σ0 : St) (a1 : Int32) (i0 : Inv σ0) (l : Launch) (D : va_G) (cy : Nat → ClassId) : Ct l D cy SC r (EC a g) y_X8_firstOf (Cond.code y_X8_firstOf b_X8_firstOf 2 (some .int)) 1 [.ref (r 5), .int a1] σ0 Z0 [] (QI (fun _ σ9 => σ9 = σ0)) QF := by
  refine Ct_of (EC_ok a g) (by decide) (Nat.le_of_ble_eq_true rfl) (by decide) (fun X hnn hF => ?_)
  show G SC r X σ0 Z0 [] [(0, .ref (r 5)), (1, .int a1)] [] 0
  refine g_iload_n hF d_X8_firstOf_0 rfl 1 rfl ?_
  refine g_if_gt hF 8 d_X8_firstOf_1 (by decide) rfl (fun c1_1 => ?_) (fun c1_1 => ?_)
  · -- taken at 1
    refine g_aload_n hF d_X8_firstOf_8 rfl 0 rfl ?_
    refine g_get (v := .ref (r 34)) hF 14 obC_5 (by decide) m_252 rfl d_X8_firstOf_9 ?_
    refine g_iload_n hF d_X8_firstOf_12 rfl 1 rfl ?_
    refine g_iconst hF (v := 1) d_X8_firstOf_13 (by decide) ?_
    refine g_isub hF d_X8_firstOf_14 ?_
    refine g_callSN (As := [.ref (r 34), .int (a1 - 1)]) (rest := []) hF (c_at a g r σ0 arC_34 (by decide) (a1 - 1)) (Nat.le_of_ble_eq_true rfl) mS_X12_at nm_1125 rfl rfl (Nat.le_of_ble_eq_true rfl) d_X8_firstOf_15 (k_rop (fun r2 hr2 => ?_))
    have hr2 : 0 ≤ r2.toInt ∧ r2.toInt ≤ 10100 := acr_at i0.2.2.2.2.2.2.2.2.2.2.2.2.2.1 (by decide) (by decide) (hr2.imp And.left (fun h => ⟨_, h.2⟩))
    exact g_iret hF rfl d_X8_firstOf_18 ⟨rfl, rfl, r2, rfl, rfl⟩
  · -- not taken at 1
    refine g_iconst hF (v := 0) d_X8_firstOf_4 (by decide) ?_
    refine g_goto hF 18 d_X8_firstOf_5 (by decide) ?_
    exact g_iret hF rfl d_X8_firstOf_18 ⟨rfl, rfl, (0 : Int32), rfl, rfl⟩
set_option maxHeartbeats 4000000 in
set_option maxRecDepth 100000 in
theorem c_X8_symbolAt (a : Nat → Nat) (g : Nat → Nat → Int32) (r : Nat → Nat) (σ0 : St) (a1 : Int32) (a2 : Int32) (i0 : Inv σ0) (l : Launch) (D : va_G) (cy : Nat → ClassId) : Ct l D cy SC r (EC a g) y_X8_symbolAt (Cond.code y_X8_symbolAt b_X8_symbolAt 5 (some .int)) 2 [.ref (r 5), .int a1, .int a2] σ0 Z0 [] (QI (fun _ σ9 => σ9 = σ0)) QF := by
  refine Ct_of (EC_ok a g) (by decide) (Nat.le_of_ble_eq_true rfl) (by decide) (fun X hnn hF => ?_)
  show G SC r X σ0 Z0 [] [(0, .ref (r 5)), (1, .int a1), (2, .int a2)] [] 0
  have b25 : ∀ (N : Nat) (x1 : Int32) (x2 : Int32) (x3 : Int32) (x4 : Int32) , upm x4 = N → G SC r X σ0 Z0 [] [(0, .ref (r 5)), (1, .int x1), (2, .int x2), (3, .int x3), (4, .int x4)] [] 25 := by
    intro M25
    induction M25 using Nat.strongRecOn with
    | _ M25 ih25 =>
      intro x1 x2 x3 x4 N25
      refine g_iload_n hF d_X8_symbolAt_25 rfl 3 rfl ?_
      refine g_if_lt hF 68 d_X8_symbolAt_26 (by decide) rfl (fun c1_26 => ?_) (fun c1_26 => ?_)
      · -- taken at 26
        refine g_iconst hF (v := (-1)) d_X8_symbolAt_68 (by decide) ?_
        exact g_iret hF rfl d_X8_symbolAt_69 ⟨rfl, rfl, ((-1) : Int32), rfl, rfl⟩
      · -- not taken at 26
        refine g_iload hF d_X8_symbolAt_29 4 rfl ?_
        refine g_aload_n hF d_X8_symbolAt_31 rfl 0 rfl ?_
        refine g_get (v := .ref (r 34)) hF 14 obC_5 (by decide) m_252 rfl d_X8_symbolAt_32 ?_
        refine g_iload_n hF d_X8_symbolAt_35 rfl 1 rfl ?_
        refine g_callSN (As := [.ref (r 34), .int x1]) (rest := [.int x4]) hF (c_at a g r σ0 arC_34 (by decide) x1) (Nat.le_of_ble_eq_true rfl) mS_X12_at nm_1125 rfl rfl (Nat.le_of_ble_eq_true rfl) d_X8_symbolAt_36 (k_rop (fun r2 hr2 => ?_))
        have hr2 : 0 ≤ r2.toInt ∧ r2.toInt ≤ 10100 := acr_at i0.2.2.2.2.2.2.2.2.2.2.2.2.2.1 (by decide) (by decide) (hr2.imp And.left (fun h => ⟨_, h.2⟩))
        refine g_icmp_ge hF 68 d_X8_symbolAt_39 (by decide) rfl rfl (fun c3_39 => ?_) (fun c3_39 => ?_)
        · -- taken at 39
          refine g_iconst hF (v := (-1)) d_X8_symbolAt_68 (by decide) ?_
          exact g_iret hF rfl d_X8_symbolAt_69 ⟨rfl, rfl, ((-1) : Int32), rfl, rfl⟩
        · -- not taken at 39
          refine g_aload_n hF d_X8_symbolAt_42 rfl 0 rfl ?_
          refine g_iload hF d_X8_symbolAt_43 4 rfl ?_
          refine g_iconst hF (v := 2) d_X8_symbolAt_45 (by decide) ?_
          refine g_callV (As := [.int x4, .int 2]) (rest := []) hF (c_X8_is a g r σ0 x4 (2 : Int32) i0) (Nat.le_of_ble_eq_true rfl) mV_X8_is m_1525 (recv_ob obC_5) rfl rfl (Nat.le_of_ble_eq_true rfl) d_X8_symbolAt_46 (k_roz (fun r4 hz4 => ?_)) (fun _ _ _ h => h.elim)
          refine g_if_ne hF 62 d_X8_symbolAt_49 (by decide) rfl (fun c5_49 => ?_) (fun c5_49 => ?_)
          · -- taken at 49
            refine g_iinc hF (x4 + 1) [(4, .int (x4 + 1)), (0, .ref (r 5)), (1, .int x1), (2, .int x2), (3, .int x3)] d_X8_symbolAt_62 4 rfl rfl hnn (by decide) rfl ?_
            refine g_goto hF 25 d_X8_symbolAt_65 (by decide) ?_
            exact g_sub (L' := [(0, .ref (r 5)), (1, .int x1), (2, .int x2), (3, .int x3), (4, .int (x4 + 1))]) [1, 2, 3, 4, 0] rfl (ih25 _ (N25 ▸ upm_lt c3_39 (s_rng r2).2) x1 x2 x3 (x4 + 1) rfl)
          · -- not taken at 49
            refine g_iload_n hF d_X8_symbolAt_52 rfl 3 rfl ?_
            refine g_if_ne hF 59 d_X8_symbolAt_53 (by decide) rfl (fun c6_53 => ?_) (fun c6_53 => ?_)
            · -- taken at 53
              refine g_iinc hF (x3 + (-1)) [(3, .int (x3 + (-1))), (0, .ref (r 5)), (1, .int x1), (2, .int x2), (4, .int x4)] d_X8_symbolAt_59 3 rfl rfl hnn (by decide) rfl ?_
              refine g_iinc hF (x4 + 1) [(4, .int (x4 + 1)), (3, .int (x3 + (-1))), (0, .ref (r 5)), (1, .int x1), (2, .int x2)] d_X8_symbolAt_62 4 rfl rfl hnn (by decide) rfl ?_
              refine g_goto hF 25 d_X8_symbolAt_65 (by decide) ?_
              exact g_sub (L' := [(0, .ref (r 5)), (1, .int x1), (2, .int x2), (3, .int (x3 + (-1))), (4, .int (x4 + 1))]) [2, 3, 4, 1, 0] rfl (ih25 _ (N25 ▸ upm_lt c3_39 (s_rng r2).2) x1 x2 (x3 + (-1)) (x4 + 1) rfl)
            · -- not taken at 53
              refine g_iload hF d_X8_symbolAt_56 4 rfl ?_
              exact g_iret hF rfl d_X8_symbolAt_58 ⟨rfl, rfl, x4, rfl, rfl⟩
  refine g_aload_n hF d_X8_symbolAt_0 rfl 0 rfl ?_
  refine g_iload_n hF d_X8_symbolAt_1 rfl 1 rfl ?_
  refine g_callV (As := [.int a1]) (rest := []) hF (c_X8_has a g r σ0 a1 i0) (Nat.le_of_ble_eq_true rfl) mV_X8_has m_1534 (recv_ob obC_5) rfl rfl (Nat.le_of_ble_eq_true rfl) d_X8_symbolAt_2 (k_roz (fun r7 hz7 => ?_)) (fun _ _ _ h => h.elim)
  refine g_if_eq hF 16 d_X8_symbolAt_5 (by decide) rfl (fun c8_5 => ?_) (fun c8_5 => ?_)
  · -- taken at 5
    refine g_iconst hF (v := (-1)) d_X8_symbolAt_16 (by decide) ?_
    refine g_istore_n hF [(3, .int (-1)), (0, .ref (r 5)), (1, .int a1), (2, .int a2)] d_X8_symbolAt_17 rfl hnn (by decide) rfl ?_
    refine g_aload_n hF d_X8_symbolAt_18 rfl 1 rfl ?_
    refine g_iload_n hF d_X8_symbolAt_19 rfl 2 rfl ?_
    refine g_callV (As := [.int a1]) (rest := []) hF (c_X8_firstOf a g r σ0 a1 i0) (Nat.le_of_ble_eq_true rfl) mV_X8_firstOf m_1521 (recv_ob obC_5) rfl rfl (Nat.le_of_ble_eq_true rfl) d_X8_symbolAt_20 (k_ro (fun r9 => ?_)) (fun _ _ _ h => h.elim)
    refine g_istore hF [(4, .int r9), (3, .int (-1)), (0, .ref (r 5)), (1, .int a1), (2, .int a2)] d_X8_symbolAt_23 hnn (by decide) rfl ?_
    exact g_sub (L' := [(0, .ref (r 5)), (1, .int a1), (2, .int a2), (3, .int (-1)), (4, .int r9)]) [2, 3, 4, 1, 0] rfl (b25 _ a1 a2 ((-1) : Int32) r9 rfl)
  · -- not taken at 5
    refine g_iload_n hF d_X8_symbolAt_8 rfl 2 rfl ?_
    refine g_if_lt hF 16 d_X8_symbolAt_9 (by decide) rfl (fun c10_9 => ?_) (fun c10_9 => ?_)
    · -- taken at 9
      refine g_iconst hF (v := (-1)) d_X8_symbolAt_16 (by decide) ?_
      refine g_istore_n hF [(3, .int (-1)), (0, .ref (r 5)), (1, .int a1), (2, .int a2)] d_X8_symbolAt_17 rfl hnn (by decide) rfl ?_
      refine g_aload_n hF d_X8_symbolAt_18 rfl 1 rfl ?_
      refine g_iload_n hF d_X8_symbolAt_19 rfl 2 rfl ?_
      refine g_callV (As := [.int a1]) (rest := []) hF (c_X8_firstOf a g r σ0 a1 i0) (Nat.le_of_ble_eq_true rfl) mV_X8_firstOf m_1521 (recv_ob obC_5) rfl rfl (Nat.le_of_ble_eq_true rfl) d_X8_symbolAt_20 (k_ro (fun r11 => ?_)) (fun _ _ _ h => h.elim)
      refine g_istore hF [(4, .int r11), (3, .int (-1)), (0, .ref (r 5)), (1, .int a1), (2, .int a2)] d_X8_symbolAt_23 hnn (by decide) rfl ?_
      exact g_sub (L' := [(0, .ref (r 5)), (1, .int a1), (2, .int a2), (3, .int (-1)), (4, .int r11)]) [2, 3, 4, 1, 0] rfl (b25 _ a1 a2 ((-1) : Int32) r11 rfl)
    · -- not taken at 9
      refine g_iload_n hF d_X8_symbolAt_12 rfl 2 rfl ?_
      refine g_goto hF 17 d_X8_symbolAt_13 (by decide) ?_
      refine g_istore_n hF [(3, .int a2), (0, .ref (r 5)), (1, .int a1), (2, .int a2)] d_X8_symbolAt_17 rfl hnn (by decide) rfl ?_
      refine g_aload_n hF d_X8_symbolAt_18 rfl 1 rfl ?_
      refine g_iload_n hF d_X8_symbolAt_19 rfl 2 rfl ?_
      refine g_callV (As := [.int a1]) (rest := []) hF (c_X8_firstOf a g r σ0 a1 i0) (Nat.le_of_ble_eq_true rfl) mV_X8_firstOf m_1521 (recv_ob obC_5) rfl rfl (Nat.le_of_ble_eq_true rfl) d_X8_symbolAt_20 (k_ro (fun r12 => ?_)) (fun _ _ _ h => h.elim)
      refine g_istore hF [(4, .int r12), (3, .int a2), (0, .ref (r 5)), (1, .int a1), (2, .int a2)] d_X8_symbolAt_23 hnn (by decide) rfl ?_
      exact g_sub (L' := [(0, .ref (r 5)), (1, .int a1), (2, .int a2), (3, .int a2), (4, .int r12)]) [2, 3, 4, 1, 0] rfl (b25 _ a1 a2 a2 r12 rfl)
