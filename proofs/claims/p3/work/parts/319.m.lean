set_option maxHeartbeats 4000000 in
set_option maxRecDepth 100000 in
theorem c_X7_constant (a : Nat → Nat) (g : Nat → Nat → Int32) (r : Nat → Nat) (σ0 : St) (a1 : Int32) (a2 : Int32) (i0 : Inv σ0) (l : Launch) (D : va_G) (cy : Nat → ClassId) : Ct l D cy SC r (EC a g) y_X7_constant (Cond.code y_X7_constant b_X7_constant 6 (some .int)) 6 [.ref (r 9), .int a1, .int a2] σ0 Z0 [] (QI (fun _ σ9 => (Inv σ9 ∧ Keep [(4, 1), (5, 9), (6, 3), (6, 4), (6, 5), (7, 7)] [17, 24, 25, 31, 32, 33, 39, 43] σ0 σ9))) QF := by
  refine Ct_of (EC_ok a g) (by decide) (Nat.le_of_ble_eq_true rfl) (by decide) (fun X hnn hF => ?_)
  show G SC r X σ0 Z0 [] [(0, .ref (r 9)), (1, .int a1), (2, .int a2)] [] 0
  have b11 : ∀ (N : Nat) (σ : St) (x1 : Int32) (x2 : Int32) (x3 : Int32) (x4 : Int32) , upm x4 = N → Inv σ → Keep [(4, 1), (5, 9), (6, 3), (6, 4), (6, 5), (7, 7)] [17, 24, 25, 31, 32, 33, 39, 43] σ0 σ → G SC r X σ Z0 [] [(0, .ref (r 9)), (1, .int x1), (2, .int x2), (3, .int x3), (4, .int x4)] [] 11 := by
    intro M11
    induction M11 using Nat.strongRecOn with
    | _ M11 ih11 =>
      intro σ x1 x2 x3 x4 N11 inv kp
      refine g_iload hF d_X7_constant_11 4 rfl ?_
      refine g_iload_n hF d_X7_constant_13 rfl 2 rfl ?_
      refine g_icmp_ge hF 42 d_X7_constant_14 (by decide) rfl rfl (fun c1_14 => ?_) (fun c1_14 => ?_)
      · -- taken at 14
        refine g_aload_n hF d_X7_constant_42 rfl 0 rfl ?_
        refine g_get (v := .ref (r 6)) hF 1 obC_9 (by decide) m_554 rfl d_X7_constant_43 ?_
        refine g_getN (v := .int (σ 6 3)) hF 3 obC_6 (by decide) nm_315 rfl d_X7_constant_46 ?_
        refine g_if_ne hF 56 d_X7_constant_49 (by decide) rfl (fun c2_49 => ?_) (fun c2_49 => ?_)
        · -- taken at 49
          refine g_iconst hF (v := 0) d_X7_constant_56 (by decide) ?_
          refine g_istore hF [(4, .int 0), (0, .ref (r 9)), (1, .int x1), (2, .int x2), (3, .int x3)] d_X7_constant_57 hnn (by decide) rfl ?_
          refine g_aload_n hF d_X7_constant_59 rfl 1 rfl ?_
          refine g_get (v := .ref (r 6)) hF 1 obC_9 (by decide) m_554 rfl d_X7_constant_60 ?_
          refine g_iconst hF (v := 0) d_X7_constant_63 (by decide) ?_
          refine g_putN (v := 0) hF 3 obC_6 (by decide) nm_315 rfl rfl rfl d_X7_constant_64 ?_
          have kp : Keep [(4, 1), (5, 9), (6, 3), (6, 4), (6, 5), (7, 7)] [17, 24, 25, 31, 32, 33, 39, 43] σ0 (upC σ 6 3 0) := keep_f kp (by decide)
          refine g_aload_n hF d_X7_constant_67 rfl 1 rfl ?_
          refine g_get (v := .ref (r 4)) hF 2 obC_9 (by decide) m_555 rfl d_X7_constant_68 ?_
          refine g_iload_n hF d_X7_constant_71 rfl 4 rfl ?_
          have j4 : Inv (upC σ 6 3 0) := ⟨inv.1, inv.2.1, inv.2.2.1, inv.2.2.2.1, inv.2.2.2.2.1, inv.2.2.2.2.2.1, inv.2.2.2.2.2.2.1, inv.2.2.2.2.2.2.2.1, inv.2.2.2.2.2.2.2.2.1, inv.2.2.2.2.2.2.2.2.2.1, inv.2.2.2.2.2.2.2.2.2.2.1, inv.2.2.2.2.2.2.2.2.2.2.2.1, inv.2.2.2.2.2.2.2.2.2.2.2.2.1, inv.2.2.2.2.2.2.2.2.2.2.2.2.2.1, inv.2.2.2.2.2.2.2.2.2.2.2.2.2.2.1, inv.2.2.2.2.2.2.2.2.2.2.2.2.2.2.2.1, inv.2.2.2.2.2.2.2.2.2.2.2.2.2.2.2.2.1, inv.2.2.2.2.2.2.2.2.2.2.2.2.2.2.2.2.2.1, inv.2.2.2.2.2.2.2.2.2.2.2.2.2.2.2.2.2.2.1, inv.2.2.2.2.2.2.2.2.2.2.2.2.2.2.2.2.2.2.2⟩
          refine g_callVN (As := [.int x3]) (rest := []) hF (c_X0_cut a g r (upC σ 6 3 0) x3 j4) (Nat.le_of_ble_eq_true rfl) mV_X0_cut nm_1478 (recv_ob obC_4) rfl rfl (Nat.le_of_ble_eq_true rfl) d_X7_constant_72 (k_v (fun σ3 ⟨iσ3, ik3⟩ => ?_))
          have kp : Keep [(4, 1), (5, 9), (6, 3), (6, 4), (6, 5), (7, 7)] [17, 24, 25, 31, 32, 33, 39, 43] σ0 σ3 := keep_c kp ik3 (by decide) (by decide)
          refine g_aload_n hF d_X7_constant_75 rfl 1 rfl ?_
          refine g_get (v := .ref (r 7)) hF 3 obC_9 (by decide) m_556 rfl d_X7_constant_76 ?_
          refine g_callVN (As := []) (rest := []) hF (c_X2_top a g r σ3 iσ3) (Nat.le_of_ble_eq_true rfl) mV_X2_top nm_1479 (recv_ob obC_7) rfl rfl (Nat.le_of_ble_eq_true rfl) d_X7_constant_79 (k_roa (fun q5 hq5 => ?_))
          refine g_astore hF [(5, .ref (r q5)), (4, .int 0), (0, .ref (r 9)), (1, .int x1), (2, .int x2), (3, .int x3)] d_X7_constant_82 hnn (by decide) rfl ?_
          refine g_aload_n hF d_X7_constant_84 rfl 2 rfl ?_
          refine g_get (v := .ref (r 7)) hF 3 obC_9 (by decide) m_556 rfl d_X7_constant_85 ?_
          refine g_iconst hF (v := 0) d_X7_constant_88 (by decide) ?_
          refine g_putN (v := 0) hF 7 obC_7 (by decide) nm_465 rfl rfl rfl d_X7_constant_89 ?_
          have kp : Keep [(4, 1), (5, 9), (6, 3), (6, 4), (6, 5), (7, 7)] [17, 24, 25, 31, 32, 33, 39, 43] σ0 (upC σ3 7 7 0) := keep_f kp (by decide)
          refine g_iload hF d_X7_constant_92 1 rfl ?_
          refine g_if_eq (xv := 0) hF 117 d_X7_constant_94 (by decide) (by decide) (fun _ => ?_) (fun c_94 => absurd c_94 (by decide))
          refine g_iconst hF (v := 0) d_X7_constant_117 (by decide) ?_
          have j6 : Inv (upC σ3 7 7 0) := ⟨iσ3.1, iσ3.2.1, iσ3.2.2.1, iσ3.2.2.2.1, iσ3.2.2.2.2.1, iσ3.2.2.2.2.2.1, iσ3.2.2.2.2.2.2.1, iσ3.2.2.2.2.2.2.2.1, iσ3.2.2.2.2.2.2.2.2.1, iσ3.2.2.2.2.2.2.2.2.2.1, iσ3.2.2.2.2.2.2.2.2.2.2.1, iσ3.2.2.2.2.2.2.2.2.2.2.2.1, iσ3.2.2.2.2.2.2.2.2.2.2.2.2.1, iσ3.2.2.2.2.2.2.2.2.2.2.2.2.2.1, iσ3.2.2.2.2.2.2.2.2.2.2.2.2.2.2.1, iσ3.2.2.2.2.2.2.2.2.2.2.2.2.2.2.2.1, iσ3.2.2.2.2.2.2.2.2.2.2.2.2.2.2.2.2.1, iσ3.2.2.2.2.2.2.2.2.2.2.2.2.2.2.2.2.2.1, iσ3.2.2.2.2.2.2.2.2.2.2.2.2.2.2.2.2.2.2.1, iσ3.2.2.2.2.2.2.2.2.2.2.2.2.2.2.2.2.2.2.2⟩
          exact g_iret hF rfl d_X7_constant_118 ⟨rfl, rfl, (0 : Int32), rfl, ⟨j6, kp⟩⟩
        · -- not taken at 49
          refine g_iconst hF (v := 1) d_X7_constant_52 (by decide) ?_
          refine g_goto hF 57 d_X7_constant_53 (by decide) ?_
          refine g_istore hF [(4, .int 1), (0, .ref (r 9)), (1, .int x1), (2, .int x2), (3, .int x3)] d_X7_constant_57 hnn (by decide) rfl ?_
          refine g_aload_n hF d_X7_constant_59 rfl 1 rfl ?_
          refine g_get (v := .ref (r 6)) hF 1 obC_9 (by decide) m_554 rfl d_X7_constant_60 ?_
          refine g_iconst hF (v := 0) d_X7_constant_63 (by decide) ?_
          refine g_putN (v := 0) hF 3 obC_6 (by decide) nm_315 rfl rfl rfl d_X7_constant_64 ?_
          have kp : Keep [(4, 1), (5, 9), (6, 3), (6, 4), (6, 5), (7, 7)] [17, 24, 25, 31, 32, 33, 39, 43] σ0 (upC σ 6 3 0) := keep_f kp (by decide)
          refine g_aload_n hF d_X7_constant_67 rfl 1 rfl ?_
          refine g_get (v := .ref (r 4)) hF 2 obC_9 (by decide) m_555 rfl d_X7_constant_68 ?_
          refine g_iload_n hF d_X7_constant_71 rfl 4 rfl ?_
          have j8 : Inv (upC σ 6 3 0) := ⟨inv.1, inv.2.1, inv.2.2.1, inv.2.2.2.1, inv.2.2.2.2.1, inv.2.2.2.2.2.1, inv.2.2.2.2.2.2.1, inv.2.2.2.2.2.2.2.1, inv.2.2.2.2.2.2.2.2.1, inv.2.2.2.2.2.2.2.2.2.1, inv.2.2.2.2.2.2.2.2.2.2.1, inv.2.2.2.2.2.2.2.2.2.2.2.1, inv.2.2.2.2.2.2.2.2.2.2.2.2.1, inv.2.2.2.2.2.2.2.2.2.2.2.2.2.1, inv.2.2.2.2.2.2.2.2.2.2.2.2.2.2.1, inv.2.2.2.2.2.2.2.2.2.2.2.2.2.2.2.1, inv.2.2.2.2.2.2.2.2.2.2.2.2.2.2.2.2.1, inv.2.2.2.2.2.2.2.2.2.2.2.2.2.2.2.2.2.1, inv.2.2.2.2.2.2.2.2.2.2.2.2.2.2.2.2.2.2.1, inv.2.2.2.2.2.2.2.2.2.2.2.2.2.2.2.2.2.2.2⟩
          refine g_callVN (As := [.int x3]) (rest := []) hF (c_X0_cut a g r (upC σ 6 3 0) x3 j8) (Nat.le_of_ble_eq_true rfl) mV_X0_cut nm_1478 (recv_ob obC_4) rfl rfl (Nat.le_of_ble_eq_true rfl) d_X7_constant_72 (k_v (fun σ7 ⟨iσ7, ik7⟩ => ?_))
          have kp : Keep [(4, 1), (5, 9), (6, 3), (6, 4), (6, 5), (7, 7)] [17, 24, 25, 31, 32, 33, 39, 43] σ0 σ7 := keep_c kp ik7 (by decide) (by decide)
          refine g_aload_n hF d_X7_constant_75 rfl 1 rfl ?_
          refine g_get (v := .ref (r 7)) hF 3 obC_9 (by decide) m_556 rfl d_X7_constant_76 ?_
          refine g_callVN (As := []) (rest := []) hF (c_X2_top a g r σ7 iσ7) (Nat.le_of_ble_eq_true rfl) mV_X2_top nm_1479 (recv_ob obC_7) rfl rfl (Nat.le_of_ble_eq_true rfl) d_X7_constant_79 (k_roa (fun q9 hq9 => ?_))
          refine g_astore hF [(5, .ref (r q9)), (4, .int 1), (0, .ref (r 9)), (1, .int x1), (2, .int x2), (3, .int x3)] d_X7_constant_82 hnn (by decide) rfl ?_
          refine g_aload_n hF d_X7_constant_84 rfl 2 rfl ?_
          refine g_get (v := .ref (r 7)) hF 3 obC_9 (by decide) m_556 rfl d_X7_constant_85 ?_
          refine g_iconst hF (v := 0) d_X7_constant_88 (by decide) ?_
          refine g_putN (v := 0) hF 7 obC_7 (by decide) nm_465 rfl rfl rfl d_X7_constant_89 ?_
          have kp : Keep [(4, 1), (5, 9), (6, 3), (6, 4), (6, 5), (7, 7)] [17, 24, 25, 31, 32, 33, 39, 43] σ0 (upC σ7 7 7 0) := keep_f kp (by decide)
          refine g_iload hF d_X7_constant_92 1 rfl ?_
          refine g_if_eq (xv := 1) hF 117 d_X7_constant_94 (by decide) (by decide) (fun c_94 => absurd c_94 (by decide)) (fun _ => ?_)
          refine g_aload hF d_X7_constant_97 0 rfl ?_
          have j11 : Inv (upC σ7 7 7 0) := ⟨iσ7.1, iσ7.2.1, iσ7.2.2.1, iσ7.2.2.2.1, iσ7.2.2.2.2.1, iσ7.2.2.2.2.2.1, iσ7.2.2.2.2.2.2.1, iσ7.2.2.2.2.2.2.2.1, iσ7.2.2.2.2.2.2.2.2.1, iσ7.2.2.2.2.2.2.2.2.2.1, iσ7.2.2.2.2.2.2.2.2.2.2.1, iσ7.2.2.2.2.2.2.2.2.2.2.2.1, iσ7.2.2.2.2.2.2.2.2.2.2.2.2.1, iσ7.2.2.2.2.2.2.2.2.2.2.2.2.2.1, iσ7.2.2.2.2.2.2.2.2.2.2.2.2.2.2.1, iσ7.2.2.2.2.2.2.2.2.2.2.2.2.2.2.2.1, iσ7.2.2.2.2.2.2.2.2.2.2.2.2.2.2.2.2.1, iσ7.2.2.2.2.2.2.2.2.2.2.2.2.2.2.2.2.2.1, iσ7.2.2.2.2.2.2.2.2.2.2.2.2.2.2.2.2.2.2.1, iσ7.2.2.2.2.2.2.2.2.2.2.2.2.2.2.2.2.2.2.2⟩
          refine g_callVN (As := []) (rest := []) hF (c_X6_isConstant a g r (upC σ7 7 7 0) q9 hq9 j11) (Nat.le_of_ble_eq_true rfl) mV_X6_isConstant nm_1480 (recv_ob (obC_op hq9)) rfl rfl (Nat.le_of_ble_eq_true rfl) d_X7_constant_99 (k_roz (fun r10 hz10 => ?_))
          refine g_if_eq hF 117 d_X7_constant_102 (by decide) rfl (fun c12_102 => ?_) (fun c12_102 => ?_)
          · -- taken at 102
            refine g_iconst hF (v := 0) d_X7_constant_117 (by decide) ?_
            exact g_iret hF rfl d_X7_constant_118 ⟨rfl, rfl, (0 : Int32), rfl, ⟨j11, kp⟩⟩
          · -- not taken at 102
            refine g_aload hF d_X7_constant_105 0 rfl ?_
            refine g_getN hF 8 (obC_op hq9) (by decide) nm_417 (fval_op hq9) d_X7_constant_107 ?_
            refine g_any (fun v13 => ?_)
            refine g_iconst hF (v := 0) d_X7_constant_110 (by decide) ?_
            refine g_mmax hF (Nat.le_of_ble_eq_true rfl) m_1481 m_1131 m_23 m_1132 (Nat.le_of_ble_eq_true rfl) d_X7_constant_111 ?_
            refine g_nm (fun v15 ev15 => ?_)
            have mv15 := s_max ev15
            refine g_goto hF 118 d_X7_constant_114 (by decide) ?_
            exact g_iret hF rfl d_X7_constant_118 ⟨rfl, rfl, v15, rfl, ⟨j11, kp⟩⟩
      · -- not taken at 14
        refine g_aload_n hF d_X7_constant_17 rfl 0 rfl ?_
        refine g_get (v := .ref (r 6)) hF 1 obC_9 (by decide) m_554 rfl d_X7_constant_18 ?_
        refine g_getN (v := .int (σ 6 3)) hF 3 obC_6 (by decide) nm_315 rfl d_X7_constant_21 ?_
        refine g_if_ne hF 42 d_X7_constant_24 (by decide) rfl (fun c16_24 => ?_) (fun c16_24 => ?_)
        · -- taken at 24
          refine g_aload_n hF d_X7_constant_42 rfl 0 rfl ?_
          refine g_get (v := .ref (r 6)) hF 1 obC_9 (by decide) m_554 rfl d_X7_constant_43 ?_
          refine g_getN (v := .int (σ 6 3)) hF 3 obC_6 (by decide) nm_315 rfl d_X7_constant_46 ?_
          refine g_if_ne hF 56 d_X7_constant_49 (by decide) rfl (fun c17_49 => ?_) (fun c17_49 => ?_)
          · -- taken at 49
            refine g_iconst hF (v := 0) d_X7_constant_56 (by decide) ?_
            refine g_istore hF [(4, .int 0), (0, .ref (r 9)), (1, .int x1), (2, .int x2), (3, .int x3)] d_X7_constant_57 hnn (by decide) rfl ?_
            refine g_aload_n hF d_X7_constant_59 rfl 1 rfl ?_
            refine g_get (v := .ref (r 6)) hF 1 obC_9 (by decide) m_554 rfl d_X7_constant_60 ?_
            refine g_iconst hF (v := 0) d_X7_constant_63 (by decide) ?_
            refine g_putN (v := 0) hF 3 obC_6 (by decide) nm_315 rfl rfl rfl d_X7_constant_64 ?_
            have kp : Keep [(4, 1), (5, 9), (6, 3), (6, 4), (6, 5), (7, 7)] [17, 24, 25, 31, 32, 33, 39, 43] σ0 (upC σ 6 3 0) := keep_f kp (by decide)
            refine g_aload_n hF d_X7_constant_67 rfl 1 rfl ?_
            refine g_get (v := .ref (r 4)) hF 2 obC_9 (by decide) m_555 rfl d_X7_constant_68 ?_
            refine g_iload_n hF d_X7_constant_71 rfl 4 rfl ?_
            have j19 : Inv (upC σ 6 3 0) := ⟨inv.1, inv.2.1, inv.2.2.1, inv.2.2.2.1, inv.2.2.2.2.1, inv.2.2.2.2.2.1, inv.2.2.2.2.2.2.1, inv.2.2.2.2.2.2.2.1, inv.2.2.2.2.2.2.2.2.1, inv.2.2.2.2.2.2.2.2.2.1, inv.2.2.2.2.2.2.2.2.2.2.1, inv.2.2.2.2.2.2.2.2.2.2.2.1, inv.2.2.2.2.2.2.2.2.2.2.2.2.1, inv.2.2.2.2.2.2.2.2.2.2.2.2.2.1, inv.2.2.2.2.2.2.2.2.2.2.2.2.2.2.1, inv.2.2.2.2.2.2.2.2.2.2.2.2.2.2.2.1, inv.2.2.2.2.2.2.2.2.2.2.2.2.2.2.2.2.1, inv.2.2.2.2.2.2.2.2.2.2.2.2.2.2.2.2.2.1, inv.2.2.2.2.2.2.2.2.2.2.2.2.2.2.2.2.2.2.1, inv.2.2.2.2.2.2.2.2.2.2.2.2.2.2.2.2.2.2.2⟩
            refine g_callVN (As := [.int x3]) (rest := []) hF (c_X0_cut a g r (upC σ 6 3 0) x3 j19) (Nat.le_of_ble_eq_true rfl) mV_X0_cut nm_1478 (recv_ob obC_4) rfl rfl (Nat.le_of_ble_eq_true rfl) d_X7_constant_72 (k_v (fun σ18 ⟨iσ18, ik18⟩ => ?_))
            have kp : Keep [(4, 1), (5, 9), (6, 3), (6, 4), (6, 5), (7, 7)] [17, 24, 25, 31, 32, 33, 39, 43] σ0 σ18 := keep_c kp ik18 (by decide) (by decide)
            refine g_aload_n hF d_X7_constant_75 rfl 1 rfl ?_
            refine g_get (v := .ref (r 7)) hF 3 obC_9 (by decide) m_556 rfl d_X7_constant_76 ?_
            refine g_callVN (As := []) (rest := []) hF (c_X2_top a g r σ18 iσ18) (Nat.le_of_ble_eq_true rfl) mV_X2_top nm_1479 (recv_ob obC_7) rfl rfl (Nat.le_of_ble_eq_true rfl) d_X7_constant_79 (k_roa (fun q20 hq20 => ?_))
            refine g_astore hF [(5, .ref (r q20)), (4, .int 0), (0, .ref (r 9)), (1, .int x1), (2, .int x2), (3, .int x3)] d_X7_constant_82 hnn (by decide) rfl ?_
            refine g_aload_n hF d_X7_constant_84 rfl 2 rfl ?_
            refine g_get (v := .ref (r 7)) hF 3 obC_9 (by decide) m_556 rfl d_X7_constant_85 ?_
            refine g_iconst hF (v := 0) d_X7_constant_88 (by decide) ?_
            refine g_putN (v := 0) hF 7 obC_7 (by decide) nm_465 rfl rfl rfl d_X7_constant_89 ?_
            have kp : Keep [(4, 1), (5, 9), (6, 3), (6, 4), (6, 5), (7, 7)] [17, 24, 25, 31, 32, 33, 39, 43] σ0 (upC σ18 7 7 0) := keep_f kp (by decide)
            refine g_iload hF d_X7_constant_92 1 rfl ?_
            refine g_if_eq (xv := 0) hF 117 d_X7_constant_94 (by decide) (by decide) (fun _ => ?_) (fun c_94 => absurd c_94 (by decide))
            refine g_iconst hF (v := 0) d_X7_constant_117 (by decide) ?_
            have j21 : Inv (upC σ18 7 7 0) := ⟨iσ18.1, iσ18.2.1, iσ18.2.2.1, iσ18.2.2.2.1, iσ18.2.2.2.2.1, iσ18.2.2.2.2.2.1, iσ18.2.2.2.2.2.2.1, iσ18.2.2.2.2.2.2.2.1, iσ18.2.2.2.2.2.2.2.2.1, iσ18.2.2.2.2.2.2.2.2.2.1, iσ18.2.2.2.2.2.2.2.2.2.2.1, iσ18.2.2.2.2.2.2.2.2.2.2.2.1, iσ18.2.2.2.2.2.2.2.2.2.2.2.2.1, iσ18.2.2.2.2.2.2.2.2.2.2.2.2.2.1, iσ18.2.2.2.2.2.2.2.2.2.2.2.2.2.2.1, iσ18.2.2.2.2.2.2.2.2.2.2.2.2.2.2.2.1, iσ18.2.2.2.2.2.2.2.2.2.2.2.2.2.2.2.2.1, iσ18.2.2.2.2.2.2.2.2.2.2.2.2.2.2.2.2.2.1, iσ18.2.2.2.2.2.2.2.2.2.2.2.2.2.2.2.2.2.2.1, iσ18.2.2.2.2.2.2.2.2.2.2.2.2.2.2.2.2.2.2.2⟩
            exact g_iret hF rfl d_X7_constant_118 ⟨rfl, rfl, (0 : Int32), rfl, ⟨j21, kp⟩⟩
          · -- not taken at 49
            refine g_iconst hF (v := 1) d_X7_constant_52 (by decide) ?_
            refine g_goto hF 57 d_X7_constant_53 (by decide) ?_
            refine g_istore hF [(4, .int 1), (0, .ref (r 9)), (1, .int x1), (2, .int x2), (3, .int x3)] d_X7_constant_57 hnn (by decide) rfl ?_
            refine g_aload_n hF d_X7_constant_59 rfl 1 rfl ?_
            refine g_get (v := .ref (r 6)) hF 1 obC_9 (by decide) m_554 rfl d_X7_constant_60 ?_
            refine g_iconst hF (v := 0) d_X7_constant_63 (by decide) ?_
            refine g_putN (v := 0) hF 3 obC_6 (by decide) nm_315 rfl rfl rfl d_X7_constant_64 ?_
            have kp : Keep [(4, 1), (5, 9), (6, 3), (6, 4), (6, 5), (7, 7)] [17, 24, 25, 31, 32, 33, 39, 43] σ0 (upC σ 6 3 0) := keep_f kp (by decide)
            refine g_aload_n hF d_X7_constant_67 rfl 1 rfl ?_
            refine g_get (v := .ref (r 4)) hF 2 obC_9 (by decide) m_555 rfl d_X7_constant_68 ?_
            refine g_iload_n hF d_X7_constant_71 rfl 4 rfl ?_
            have j23 : Inv (upC σ 6 3 0) := ⟨inv.1, inv.2.1, inv.2.2.1, inv.2.2.2.1, inv.2.2.2.2.1, inv.2.2.2.2.2.1, inv.2.2.2.2.2.2.1, inv.2.2.2.2.2.2.2.1, inv.2.2.2.2.2.2.2.2.1, inv.2.2.2.2.2.2.2.2.2.1, inv.2.2.2.2.2.2.2.2.2.2.1, inv.2.2.2.2.2.2.2.2.2.2.2.1, inv.2.2.2.2.2.2.2.2.2.2.2.2.1, inv.2.2.2.2.2.2.2.2.2.2.2.2.2.1, inv.2.2.2.2.2.2.2.2.2.2.2.2.2.2.1, inv.2.2.2.2.2.2.2.2.2.2.2.2.2.2.2.1, inv.2.2.2.2.2.2.2.2.2.2.2.2.2.2.2.2.1, inv.2.2.2.2.2.2.2.2.2.2.2.2.2.2.2.2.2.1, inv.2.2.2.2.2.2.2.2.2.2.2.2.2.2.2.2.2.2.1, inv.2.2.2.2.2.2.2.2.2.2.2.2.2.2.2.2.2.2.2⟩
            refine g_callVN (As := [.int x3]) (rest := []) hF (c_X0_cut a g r (upC σ 6 3 0) x3 j23) (Nat.le_of_ble_eq_true rfl) mV_X0_cut nm_1478 (recv_ob obC_4) rfl rfl (Nat.le_of_ble_eq_true rfl) d_X7_constant_72 (k_v (fun σ22 ⟨iσ22, ik22⟩ => ?_))
            have kp : Keep [(4, 1), (5, 9), (6, 3), (6, 4), (6, 5), (7, 7)] [17, 24, 25, 31, 32, 33, 39, 43] σ0 σ22 := keep_c kp ik22 (by decide) (by decide)
            refine g_aload_n hF d_X7_constant_75 rfl 1 rfl ?_
            refine g_get (v := .ref (r 7)) hF 3 obC_9 (by decide) m_556 rfl d_X7_constant_76 ?_
            refine g_callVN (As := []) (rest := []) hF (c_X2_top a g r σ22 iσ22) (Nat.le_of_ble_eq_true rfl) mV_X2_top nm_1479 (recv_ob obC_7) rfl rfl (Nat.le_of_ble_eq_true rfl) d_X7_constant_79 (k_roa (fun q24 hq24 => ?_))
            refine g_astore hF [(5, .ref (r q24)), (4, .int 1), (0, .ref (r 9)), (1, .int x1), (2, .int x2), (3, .int x3)] d_X7_constant_82 hnn (by decide) rfl ?_
            refine g_aload_n hF d_X7_constant_84 rfl 2 rfl ?_
            refine g_get (v := .ref (r 7)) hF 3 obC_9 (by decide) m_556 rfl d_X7_constant_85 ?_
            refine g_iconst hF (v := 0) d_X7_constant_88 (by decide) ?_
            refine g_putN (v := 0) hF 7 obC_7 (by decide) nm_465 rfl rfl rfl d_X7_constant_89 ?_
            have kp : Keep [(4, 1), (5, 9), (6, 3), (6, 4), (6, 5), (7, 7)] [17, 24, 25, 31, 32, 33, 39, 43] σ0 (upC σ22 7 7 0) := keep_f kp (by decide)
            refine g_iload hF d_X7_constant_92 1 rfl ?_
            refine g_if_eq (xv := 1) hF 117 d_X7_constant_94 (by decide) (by decide) (fun c_94 => absurd c_94 (by decide)) (fun _ => ?_)
            refine g_aload hF d_X7_constant_97 0 rfl ?_
            have j26 : Inv (upC σ22 7 7 0) := ⟨iσ22.1, iσ22.2.1, iσ22.2.2.1, iσ22.2.2.2.1, iσ22.2.2.2.2.1, iσ22.2.2.2.2.2.1, iσ22.2.2.2.2.2.2.1, iσ22.2.2.2.2.2.2.2.1, iσ22.2.2.2.2.2.2.2.2.1, iσ22.2.2.2.2.2.2.2.2.2.1, iσ22.2.2.2.2.2.2.2.2.2.2.1, iσ22.2.2.2.2.2.2.2.2.2.2.2.1, iσ22.2.2.2.2.2.2.2.2.2.2.2.2.1, iσ22.2.2.2.2.2.2.2.2.2.2.2.2.2.1, iσ22.2.2.2.2.2.2.2.2.2.2.2.2.2.2.1, iσ22.2.2.2.2.2.2.2.2.2.2.2.2.2.2.2.1, iσ22.2.2.2.2.2.2.2.2.2.2.2.2.2.2.2.2.1, iσ22.2.2.2.2.2.2.2.2.2.2.2.2.2.2.2.2.2.1, iσ22.2.2.2.2.2.2.2.2.2.2.2.2.2.2.2.2.2.2.1, iσ22.2.2.2.2.2.2.2.2.2.2.2.2.2.2.2.2.2.2.2⟩
            refine g_callVN (As := []) (rest := []) hF (c_X6_isConstant a g r (upC σ22 7 7 0) q24 hq24 j26) (Nat.le_of_ble_eq_true rfl) mV_X6_isConstant nm_1480 (recv_ob (obC_op hq24)) rfl rfl (Nat.le_of_ble_eq_true rfl) d_X7_constant_99 (k_roz (fun r25 hz25 => ?_))
            refine g_if_eq hF 117 d_X7_constant_102 (by decide) rfl (fun c27_102 => ?_) (fun c27_102 => ?_)
            · -- taken at 102
              refine g_iconst hF (v := 0) d_X7_constant_117 (by decide) ?_
              exact g_iret hF rfl d_X7_constant_118 ⟨rfl, rfl, (0 : Int32), rfl, ⟨j26, kp⟩⟩
            · -- not taken at 102
              refine g_aload hF d_X7_constant_105 0 rfl ?_
              refine g_getN hF 8 (obC_op hq24) (by decide) nm_417 (fval_op hq24) d_X7_constant_107 ?_
              refine g_any (fun v28 => ?_)
              refine g_iconst hF (v := 0) d_X7_constant_110 (by decide) ?_
              refine g_mmax hF (Nat.le_of_ble_eq_true rfl) m_1481 m_1131 m_23 m_1132 (Nat.le_of_ble_eq_true rfl) d_X7_constant_111 ?_
              refine g_nm (fun v30 ev30 => ?_)
              have mv30 := s_max ev30
              refine g_goto hF 118 d_X7_constant_114 (by decide) ?_
              exact g_iret hF rfl d_X7_constant_118 ⟨rfl, rfl, v30, rfl, ⟨j26, kp⟩⟩
        · -- not taken at 24
          refine g_aload_n hF d_X7_constant_27 rfl 0 rfl ?_
          refine g_get (v := .ref (r 7)) hF 3 obC_9 (by decide) m_556 rfl d_X7_constant_28 ?_
          refine g_iload hF d_X7_constant_31 4 rfl ?_
          refine g_callVN (As := [.int x4]) (rest := []) hF (c_X2_take a g r σ x4 inv) (Nat.le_of_ble_eq_true rfl) mV_X2_take nm_1054 (recv_ob obC_7) rfl rfl (Nat.le_of_ble_eq_true rfl) d_X7_constant_33 (k_v (fun σ31 ⟨iσ31, ik31⟩ => ?_))
          have kp : Keep [(4, 1), (5, 9), (6, 3), (6, 4), (6, 5), (7, 7)] [17, 24, 25, 31, 32, 33, 39, 43] σ0 σ31 := keep_c kp ik31 (by decide) (by decide)
          refine g_iinc hF (x4 + 1) [(4, .int (x4 + 1)), (0, .ref (r 9)), (1, .int x1), (2, .int x2), (3, .int x3)] d_X7_constant_36 4 rfl rfl hnn (by decide) rfl ?_
          refine g_goto hF 11 d_X7_constant_39 (by decide) ?_
          exact g_sub (L' := [(0, .ref (r 9)), (1, .int x1), (2, .int x2), (3, .int x3), (4, .int (x4 + 1))]) [1, 2, 3, 4, 0] rfl (ih11 _ (N11 ▸ upm_lt c1_14 (s_rng x2).2) σ31 x1 x2 x3 (x4 + 1) rfl iσ31 kp)
  have kp : Keep [(4, 1), (5, 9), (6, 3), (6, 4), (6, 5), (7, 7)] [17, 24, 25, 31, 32, 33, 39, 43] σ0 σ0 := keep_rf
  refine g_aload_n hF d_X7_constant_0 rfl 0 rfl ?_
  refine g_get (v := .ref (r 4)) hF 2 obC_9 (by decide) m_555 rfl d_X7_constant_1 ?_
  refine g_getN (v := .int (σ0 4 1)) hF 1 obC_4 (by decide) nm_154 rfl d_X7_constant_4 ?_
  refine g_istore_n hF [(3, .int (σ0 4 1)), (0, .ref (r 9)), (1, .int a1), (2, .int a2)] d_X7_constant_7 rfl hnn (by decide) rfl ?_
  refine g_iload_n hF d_X7_constant_8 rfl 2 rfl ?_
  refine g_istore hF [(4, .int a1), (3, .int (σ0 4 1)), (0, .ref (r 9)), (1, .int a1), (2, .int a2)] d_X7_constant_9 hnn (by decide) rfl ?_
  exact g_sub (L' := [(0, .ref (r 9)), (1, .int a1), (2, .int a2), (3, .int (σ0 4 1)), (4, .int a1)]) [2, 3, 4, 1, 0] rfl (b11 _ σ0 a1 a2 (σ0 4 1) a1 rfl i0 kp)
set_option maxHeartbeats 4000000 in
set_option maxRecDepth 100000 in
theorem c_X5_step (a : Nat → Nat) (g : Nat → Nat → Int32) (r : Nat → Nat) (σ0 : St) (i0 : Inv σ0) (l : Launch) (D : va_G) (cy : Nat → ClassId) : Ct l D cy SC r (EC a g) y_X5_step (Cond.code y_X5_step b_X5_step 4 none) 5 [.ref (r 12)] σ0 Z0 [] (QV (fun σ9 => (Inv σ9 ∧ Keep [(11, 1), (11, 2), (12, 7), (12, 8), (12, 9), (12, 10), (12, 11), (12, 13), (12, 14), (12, 15), (12, 16), (12, 17), (12, 18)] [61, 62, 63, 64] σ0 σ9))) QF := by
  refine Ct_of (EC_ok a g) (by decide) (Nat.le_of_ble_eq_true rfl) (by decide) (fun X hnn hF => ?_)
  show G SC r X σ0 Z0 [] [(0, .ref (r 12))] [] 0
  have kp : Keep [(11, 1), (11, 2), (12, 7), (12, 8), (12, 9), (12, 10), (12, 11), (12, 13), (12, 14), (12, 15), (12, 16), (12, 17), (12, 18)] [61, 62, 63, 64] σ0 σ0 := keep_rf
  refine g_aload_n hF d_X5_step_0 rfl 0 rfl ?_
  refine g_get (v := .int (σ0 12 8)) hF 8 obC_12 (by decide) m_680 rfl d_X5_step_1 ?_
  refine g_istore_n hF [(1, .int (σ0 12 8)), (0, .ref (r 12))] d_X5_step_4 rfl hnn (by decide) rfl ?_
  refine g_aload_n hF d_X5_step_5 rfl 1 rfl ?_
  refine g_get (v := .ref (r 24)) hF 3 obC_12 (by decide) m_674 rfl d_X5_step_6 ?_
  refine g_iload_n hF d_X5_step_9 rfl 0 rfl ?_
  refine g_callSN (As := [.ref (r 24), .int (σ0 12 8)]) (rest := []) hF (c_at a g r σ0 arC_24 (by decide) (σ0 12 8)) (Nat.le_of_ble_eq_true rfl) mS_X12_at nm_1660 rfl rfl (Nat.le_of_ble_eq_true rfl) d_X5_step_10 (k_rop (fun r1 hr1 => ?_))
  refine g_istore_n hF [(2, .int r1), (1, .int (σ0 12 8)), (0, .ref (r 12))] d_X5_step_13 rfl hnn (by decide) rfl ?_
  refine g_getsN hF (fun A s h => EC_z1 h) nm_1672 d_X5_step_14 ?_
  refine g_iload_n hF d_X5_step_17 rfl 0 rfl ?_
  refine g_callSN (As := [.ref (a 1), .int r1]) (rest := []) hF (c_att1 a g r σ0 r1) (Nat.le_of_ble_eq_true rfl) mS_X12_at nm_1660 rfl rfl (Nat.le_of_ble_eq_true rfl) d_X5_step_18 (k_ro (fun r2 => ?_))
  refine g_istore_n hF [(3, .int r2), (2, .int r1), (1, .int (σ0 12 8)), (0, .ref (r 12))] d_X5_step_21 rfl hnn (by decide) rfl ?_
  refine g_iload_n hF d_X5_step_22 rfl 0 rfl ?_
  refine g_if_eq hF 50 d_X5_step_23 (by decide) rfl (fun c3_23 => ?_) (fun c3_23 => ?_)
  · -- taken at 23
    refine g_aload_n hF d_X5_step_50 rfl 3 rfl ?_
    refine g_callV (As := []) (rest := []) hF (c_X5_stray a g r σ0 i0) (Nat.le_of_ble_eq_true rfl) mV_X5_stray m_1673 (recv_ob obC_12) rfl rfl (Nat.le_of_ble_eq_true rfl) d_X5_step_51 (k_v (fun σ4 ⟨iσ4, ik4⟩ => ?_)) (fun _ _ _ h => h.elim)
    have kp : Keep [(11, 1), (11, 2), (12, 7), (12, 8), (12, 9), (12, 10), (12, 11), (12, 13), (12, 14), (12, 15), (12, 16), (12, 17), (12, 18)] [61, 62, 63, 64] σ0 σ4 := keep_c kp ik4 (by decide) (by decide)
    exact g_vret hF rfl d_X5_step_54 ⟨rfl, rfl, rfl, ⟨iσ4, kp⟩⟩
  · -- not taken at 23
    refine g_aload_n hF d_X5_step_26 rfl 3 rfl ?_
    refine g_get (v := .int (σ0 12 9)) hF 9 obC_12 (by decide) m_681 rfl d_X5_step_27 ?_
    refine g_bipush hF (v := 8) d_X5_step_30 (by decide) ?_
    refine g_icmp_lt (yv := 8) hF 50 d_X5_step_32 (by decide) rfl (by decide) (fun c5_32 => ?_) (fun c5_32 => ?_)
    · -- taken at 32
      refine g_aload_n hF d_X5_step_50 rfl 3 rfl ?_
      refine g_callV (As := []) (rest := []) hF (c_X5_stray a g r σ0 i0) (Nat.le_of_ble_eq_true rfl) mV_X5_stray m_1673 (recv_ob obC_12) rfl rfl (Nat.le_of_ble_eq_true rfl) d_X5_step_51 (k_v (fun σ6 ⟨iσ6, ik6⟩ => ?_)) (fun _ _ _ h => h.elim)
      have kp : Keep [(11, 1), (11, 2), (12, 7), (12, 8), (12, 9), (12, 10), (12, 11), (12, 13), (12, 14), (12, 15), (12, 16), (12, 17), (12, 18)] [61, 62, 63, 64] σ0 σ6 := keep_c kp ik6 (by decide) (by decide)
      exact g_vret hF rfl d_X5_step_54 ⟨rfl, rfl, rfl, ⟨iσ6, kp⟩⟩
    · -- not taken at 32
      refine g_aload_n hF d_X5_step_35 rfl 3 rfl ?_
      refine g_get (v := .int (σ0 12 9)) hF 9 obC_12 (by decide) m_681 rfl d_X5_step_36 ?_
      refine g_aload_n hF d_X5_step_39 rfl 3 rfl ?_
      refine g_get (v := .ref (r 63)) hF 5 obC_12 (by decide) m_677 rfl d_X5_step_40 ?_
      refine g_alen hF arC_63 (fun _ => ⟨1, _, rfl⟩) (v := 148496) (by decide) d_X5_step_43 ?_
      refine g_bipush hF (v := 8) d_X5_step_44 (by decide) ?_
      refine g_isub hF d_X5_step_46 ?_
      refine g_top (v := 148488) (by decide) ?_
      refine g_icmp_lt (yv := 148488) hF 55 d_X5_step_47 (by decide) rfl (by decide) (fun c7_47 => ?_) (fun c7_47 => ?_)
      · -- taken at 47
        refine g_aload_n hF d_X5_step_55 rfl 3 rfl ?_
        refine g_iload_n hF d_X5_step_56 rfl 2 rfl ?_
        refine g_iload_n hF d_X5_step_57 rfl 0 rfl ?_
        refine g_iadd hF d_X5_step_58 ?_
        refine g_put (v := ((σ0 12 8) + r2)) hF 8 obC_12 (by decide) m_680 rfl rfl rfl d_X5_step_59 ?_
        have kp : Keep [(11, 1), (11, 2), (12, 7), (12, 8), (12, 9), (12, 10), (12, 11), (12, 13), (12, 14), (12, 15), (12, 16), (12, 17), (12, 18)] [61, 62, 63, 64] σ0 (upC σ0 12 8 ((σ0 12 8) + r2)) := keep_f kp (by decide)
        refine g_iload_n hF d_X5_step_62 rfl 1 rfl ?_
        refine g_bipush hF (v := 41) d_X5_step_63 (by decide) ?_
        refine g_icmp_lt (yv := 41) hF 77 d_X5_step_65 (by decide) rfl (by decide) (fun c8_65 => ?_) (fun c8_65 => ?_)
        · -- taken at 65
          refine g_iload_n hF d_X5_step_77 rfl 1 rfl ?_
          refine g_bipush hF (v := 26) d_X5_step_78 (by decide) ?_
          refine g_icmp_lt (yv := 26) hF 92 d_X5_step_80 (by decide) rfl (by decide) (fun c9_80 => ?_) (fun c9_80 => ?_)
          · -- taken at 80
            refine g_iload_n hF d_X5_step_92 rfl 1 rfl ?_
            refine g_bipush hF (v := 22) d_X5_step_93 (by decide) ?_
            refine g_icmp_lt (yv := 22) hF 113 d_X5_step_95 (by decide) rfl (by decide) (fun c10_95 => ?_) (fun c10_95 => ?_)
            · -- taken at 95
              refine g_iload_n hF d_X5_step_113 rfl 1 rfl ?_
              refine g_bipush hF (v := 18) d_X5_step_114 (by decide) ?_
              refine g_icmp_lt (yv := 18) hF 128 d_X5_step_116 (by decide) rfl (by decide) (fun c11_116 => ?_) (fun c11_116 => ?_)
              · -- taken at 116
                refine g_iload_n hF d_X5_step_128 rfl 1 rfl ?_
                refine g_bipush hF (v := 11) d_X5_step_129 (by decide) ?_
                refine g_icmp_lt (yv := 11) hF 143 d_X5_step_131 (by decide) rfl (by decide) (fun c12_131 => ?_) (fun c12_131 => ?_)
                · -- taken at 131
                  refine g_aload_n hF d_X5_step_143 rfl 3 rfl ?_
                  refine g_iload_n hF d_X5_step_144 rfl 1 rfl ?_
                  refine g_iload_n hF d_X5_step_145 rfl 2 rfl ?_
                  have j14 : Inv (upC σ0 12 8 ((σ0 12 8) + r2)) := ⟨i0.1, i0.2.1, i0.2.2.1, i0.2.2.2.1, i0.2.2.2.2.1, i0.2.2.2.2.2.1, i0.2.2.2.2.2.2.1, i0.2.2.2.2.2.2.2.1, i0.2.2.2.2.2.2.2.2.1, i0.2.2.2.2.2.2.2.2.2.1, i0.2.2.2.2.2.2.2.2.2.2.1, i0.2.2.2.2.2.2.2.2.2.2.2.1, i0.2.2.2.2.2.2.2.2.2.2.2.2.1, i0.2.2.2.2.2.2.2.2.2.2.2.2.2.1, i0.2.2.2.2.2.2.2.2.2.2.2.2.2.2.1, i0.2.2.2.2.2.2.2.2.2.2.2.2.2.2.2.1, i0.2.2.2.2.2.2.2.2.2.2.2.2.2.2.2.2.1, i0.2.2.2.2.2.2.2.2.2.2.2.2.2.2.2.2.2.1, i0.2.2.2.2.2.2.2.2.2.2.2.2.2.2.2.2.2.2.1, i0.2.2.2.2.2.2.2.2.2.2.2.2.2.2.2.2.2.2.2⟩
                  refine g_callV (As := [.int r1, .int (σ0 12 8)]) (rest := []) hF (c_X5_plain a g r (upC σ0 12 8 ((σ0 12 8) + r2)) r1 (σ0 12 8) j14) (Nat.le_of_ble_eq_true rfl) mV_X5_plain m_1748 (recv_ob obC_12) rfl rfl (Nat.le_of_ble_eq_true rfl) d_X5_step_146 (k_v (fun σ13 ⟨iσ13, ik13⟩ => ?_)) (fun _ _ _ h => h.elim)
                  have kp : Keep [(11, 1), (11, 2), (12, 7), (12, 8), (12, 9), (12, 10), (12, 11), (12, 13), (12, 14), (12, 15), (12, 16), (12, 17), (12, 18)] [61, 62, 63, 64] σ0 σ13 := keep_c kp ik13 (by decide) (by decide)
                  exact g_vret hF rfl d_X5_step_149 ⟨rfl, rfl, rfl, ⟨iσ13, kp⟩⟩
                · -- not taken at 131
                  refine g_aload_n hF d_X5_step_134 rfl 3 rfl ?_
                  refine g_iload_n hF d_X5_step_135 rfl 1 rfl ?_
                  refine g_iload_n hF d_X5_step_136 rfl 2 rfl ?_
                  have j16 : Inv (upC σ0 12 8 ((σ0 12 8) + r2)) := ⟨i0.1, i0.2.1, i0.2.2.1, i0.2.2.2.1, i0.2.2.2.2.1, i0.2.2.2.2.2.1, i0.2.2.2.2.2.2.1, i0.2.2.2.2.2.2.2.1, i0.2.2.2.2.2.2.2.2.1, i0.2.2.2.2.2.2.2.2.2.1, i0.2.2.2.2.2.2.2.2.2.2.1, i0.2.2.2.2.2.2.2.2.2.2.2.1, i0.2.2.2.2.2.2.2.2.2.2.2.2.1, i0.2.2.2.2.2.2.2.2.2.2.2.2.2.1, i0.2.2.2.2.2.2.2.2.2.2.2.2.2.2.1, i0.2.2.2.2.2.2.2.2.2.2.2.2.2.2.2.1, i0.2.2.2.2.2.2.2.2.2.2.2.2.2.2.2.2.1, i0.2.2.2.2.2.2.2.2.2.2.2.2.2.2.2.2.2.1, i0.2.2.2.2.2.2.2.2.2.2.2.2.2.2.2.2.2.2.1, i0.2.2.2.2.2.2.2.2.2.2.2.2.2.2.2.2.2.2.2⟩
                  refine g_callV (As := [.int r1, .int (σ0 12 8)]) (rest := []) hF (c_X5_inFrame a g r (upC σ0 12 8 ((σ0 12 8) + r2)) r1 (σ0 12 8) j16) (Nat.le_of_ble_eq_true rfl) mV_X5_inFrame m_1740 (recv_ob obC_12) rfl rfl (Nat.le_of_ble_eq_true rfl) d_X5_step_137 (k_v (fun σ15 ⟨iσ15, ik15⟩ => ?_)) (fun _ _ _ h => h.elim)
                  have kp : Keep [(11, 1), (11, 2), (12, 7), (12, 8), (12, 9), (12, 10), (12, 11), (12, 13), (12, 14), (12, 15), (12, 16), (12, 17), (12, 18)] [61, 62, 63, 64] σ0 σ15 := keep_c kp ik15 (by decide) (by decide)
                  refine g_goto hF 149 d_X5_step_140 (by decide) ?_
                  exact g_vret hF rfl d_X5_step_149 ⟨rfl, rfl, rfl, ⟨iσ15, kp⟩⟩
              · -- not taken at 116
                refine g_aload_n hF d_X5_step_119 rfl 3 rfl ?_
                refine g_iload_n hF d_X5_step_120 rfl 1 rfl ?_
                refine g_iload_n hF d_X5_step_121 rfl 2 rfl ?_
                have j18 : Inv (upC σ0 12 8 ((σ0 12 8) + r2)) := ⟨i0.1, i0.2.1, i0.2.2.1, i0.2.2.2.1, i0.2.2.2.2.1, i0.2.2.2.2.2.1, i0.2.2.2.2.2.2.1, i0.2.2.2.2.2.2.2.1, i0.2.2.2.2.2.2.2.2.1, i0.2.2.2.2.2.2.2.2.2.1, i0.2.2.2.2.2.2.2.2.2.2.1, i0.2.2.2.2.2.2.2.2.2.2.2.1, i0.2.2.2.2.2.2.2.2.2.2.2.2.1, i0.2.2.2.2.2.2.2.2.2.2.2.2.2.1, i0.2.2.2.2.2.2.2.2.2.2.2.2.2.2.1, i0.2.2.2.2.2.2.2.2.2.2.2.2.2.2.2.1, i0.2.2.2.2.2.2.2.2.2.2.2.2.2.2.2.2.1, i0.2.2.2.2.2.2.2.2.2.2.2.2.2.2.2.2.2.1, i0.2.2.2.2.2.2.2.2.2.2.2.2.2.2.2.2.2.2.1, i0.2.2.2.2.2.2.2.2.2.2.2.2.2.2.2.2.2.2.2⟩
                refine g_callV (As := [.int r1, .int (σ0 12 8)]) (rest := []) hF (c_X5_reach a g r (upC σ0 12 8 ((σ0 12 8) + r2)) r1 (σ0 12 8) j18) (Nat.le_of_ble_eq_true rfl) mV_X5_reach m_1729 (recv_ob obC_12) rfl rfl (Nat.le_of_ble_eq_true rfl) d_X5_step_122 (k_v (fun σ17 ⟨iσ17, ik17⟩ => ?_)) (fun _ _ _ h => h.elim)
                have kp : Keep [(11, 1), (11, 2), (12, 7), (12, 8), (12, 9), (12, 10), (12, 11), (12, 13), (12, 14), (12, 15), (12, 16), (12, 17), (12, 18)] [61, 62, 63, 64] σ0 σ17 := keep_c kp ik17 (by decide) (by decide)
                refine g_goto hF 149 d_X5_step_125 (by decide) ?_
                exact g_vret hF rfl d_X5_step_149 ⟨rfl, rfl, rfl, ⟨iσ17, kp⟩⟩
            · -- not taken at 95
              refine g_aload_n hF d_X5_step_98 rfl 3 rfl ?_
              refine g_iload_n hF d_X5_step_99 rfl 1 rfl ?_
              refine g_aload_n hF d_X5_step_100 rfl 3 rfl ?_
              have j20 : Inv (upC σ0 12 8 ((σ0 12 8) + r2)) := ⟨i0.1, i0.2.1, i0.2.2.1, i0.2.2.2.1, i0.2.2.2.2.1, i0.2.2.2.2.2.1, i0.2.2.2.2.2.2.1, i0.2.2.2.2.2.2.2.1, i0.2.2.2.2.2.2.2.2.1, i0.2.2.2.2.2.2.2.2.2.1, i0.2.2.2.2.2.2.2.2.2.2.1, i0.2.2.2.2.2.2.2.2.2.2.2.1, i0.2.2.2.2.2.2.2.2.2.2.2.2.1, i0.2.2.2.2.2.2.2.2.2.2.2.2.2.1, i0.2.2.2.2.2.2.2.2.2.2.2.2.2.2.1, i0.2.2.2.2.2.2.2.2.2.2.2.2.2.2.2.1, i0.2.2.2.2.2.2.2.2.2.2.2.2.2.2.2.2.1, i0.2.2.2.2.2.2.2.2.2.2.2.2.2.2.2.2.2.1, i0.2.2.2.2.2.2.2.2.2.2.2.2.2.2.2.2.2.2.1, i0.2.2.2.2.2.2.2.2.2.2.2.2.2.2.2.2.2.2.2⟩
              refine g_callV (As := []) (rest := [.int r1, .ref (r 12)]) hF (c_X5_pop a g r (upC σ0 12 8 ((σ0 12 8) + r2)) j20) (Nat.le_of_ble_eq_true rfl) mV_X5_pop m_1681 (recv_ob obC_12) rfl rfl (Nat.le_of_ble_eq_true rfl) d_X5_step_101 (k_i (fun r19 σ19 ⟨iσ19, ik19⟩ => ?_)) (fun _ _ _ h => h.elim)
              have kp : Keep [(11, 1), (11, 2), (12, 7), (12, 8), (12, 9), (12, 10), (12, 11), (12, 13), (12, 14), (12, 15), (12, 16), (12, 17), (12, 18)] [61, 62, 63, 64] σ0 σ19 := keep_c kp ik19 (by decide) (by decide)
              refine g_callS (As := [.int r1, .int r19]) (rest := [.ref (r 12)]) hF (c_X5_inverted a g r σ19 r1 r19 iσ19) (Nat.le_of_ble_eq_true rfl) mS_X5_inverted m_1728 rfl rfl (Nat.le_of_ble_eq_true rfl) d_X5_step_104 (k_ro (fun r21 => ?_)) (fun _ _ _ h => h.elim)
              refine g_callV (As := [.int r21]) (rest := []) hF (c_X5_push a g r σ19 r21 iσ19) (Nat.le_of_ble_eq_true rfl) mV_X5_push m_1686 (recv_ob obC_12) rfl rfl (Nat.le_of_ble_eq_true rfl) d_X5_step_107 (k_v (fun σ22 ⟨iσ22, ik22⟩ => ?_)) (fun _ _ _ h => h.elim)
              have kp : Keep [(11, 1), (11, 2), (12, 7), (12, 8), (12, 9), (12, 10), (12, 11), (12, 13), (12, 14), (12, 15), (12, 16), (12, 17), (12, 18)] [61, 62, 63, 64] σ0 σ22 := keep_c kp ik22 (by decide) (by decide)
              refine g_goto hF 149 d_X5_step_110 (by decide) ?_
              exact g_vret hF rfl d_X5_step_149 ⟨rfl, rfl, rfl, ⟨iσ22, kp⟩⟩
          · -- not taken at 80
            refine g_aload_n hF d_X5_step_83 rfl 3 rfl ?_
            refine g_iload_n hF d_X5_step_84 rfl 1 rfl ?_
            refine g_iload_n hF d_X5_step_85 rfl 2 rfl ?_
            have j24 : Inv (upC σ0 12 8 ((σ0 12 8) + r2)) := ⟨i0.1, i0.2.1, i0.2.2.1, i0.2.2.2.1, i0.2.2.2.2.1, i0.2.2.2.2.2.1, i0.2.2.2.2.2.2.1, i0.2.2.2.2.2.2.2.1, i0.2.2.2.2.2.2.2.2.1, i0.2.2.2.2.2.2.2.2.2.1, i0.2.2.2.2.2.2.2.2.2.2.1, i0.2.2.2.2.2.2.2.2.2.2.2.1, i0.2.2.2.2.2.2.2.2.2.2.2.2.1, i0.2.2.2.2.2.2.2.2.2.2.2.2.2.1, i0.2.2.2.2.2.2.2.2.2.2.2.2.2.2.1, i0.2.2.2.2.2.2.2.2.2.2.2.2.2.2.2.1, i0.2.2.2.2.2.2.2.2.2.2.2.2.2.2.2.2.1, i0.2.2.2.2.2.2.2.2.2.2.2.2.2.2.2.2.2.1, i0.2.2.2.2.2.2.2.2.2.2.2.2.2.2.2.2.2.2.1, i0.2.2.2.2.2.2.2.2.2.2.2.2.2.2.2.2.2.2.2⟩
            refine g_callV (As := [.int r1, .int (σ0 12 8)]) (rest := []) hF (c_X5_lead a g r (upC σ0 12 8 ((σ0 12 8) + r2)) r1 (σ0 12 8) j24) (Nat.le_of_ble_eq_true rfl) mV_X5_lead m_1690 (recv_ob obC_12) rfl rfl (Nat.le_of_ble_eq_true rfl) d_X5_step_86 (k_v (fun σ23 ⟨iσ23, ik23⟩ => ?_)) (fun _ _ _ h => h.elim)
            have kp : Keep [(11, 1), (11, 2), (12, 7), (12, 8), (12, 9), (12, 10), (12, 11), (12, 13), (12, 14), (12, 15), (12, 16), (12, 17), (12, 18)] [61, 62, 63, 64] σ0 σ23 := keep_c kp ik23 (by decide) (by decide)
            refine g_goto hF 149 d_X5_step_89 (by decide) ?_
            exact g_vret hF rfl d_X5_step_149 ⟨rfl, rfl, rfl, ⟨iσ23, kp⟩⟩
        · -- not taken at 65
          refine g_aload_n hF d_X5_step_68 rfl 3 rfl ?_
          refine g_iload_n hF d_X5_step_69 rfl 1 rfl ?_
          refine g_iload_n hF d_X5_step_70 rfl 2 rfl ?_
          have j26 : Inv (upC σ0 12 8 ((σ0 12 8) + r2)) := ⟨i0.1, i0.2.1, i0.2.2.1, i0.2.2.2.1, i0.2.2.2.2.1, i0.2.2.2.2.2.1, i0.2.2.2.2.2.2.1, i0.2.2.2.2.2.2.2.1, i0.2.2.2.2.2.2.2.2.1, i0.2.2.2.2.2.2.2.2.2.1, i0.2.2.2.2.2.2.2.2.2.2.1, i0.2.2.2.2.2.2.2.2.2.2.2.1, i0.2.2.2.2.2.2.2.2.2.2.2.2.1, i0.2.2.2.2.2.2.2.2.2.2.2.2.2.1, i0.2.2.2.2.2.2.2.2.2.2.2.2.2.2.1, i0.2.2.2.2.2.2.2.2.2.2.2.2.2.2.2.1, i0.2.2.2.2.2.2.2.2.2.2.2.2.2.2.2.2.1, i0.2.2.2.2.2.2.2.2.2.2.2.2.2.2.2.2.2.1, i0.2.2.2.2.2.2.2.2.2.2.2.2.2.2.2.2.2.2.1, i0.2.2.2.2.2.2.2.2.2.2.2.2.2.2.2.2.2.2.2⟩
          refine g_callV (As := [.int r1, .int (σ0 12 8)]) (rest := []) hF (c_X5_calculate a g r (upC σ0 12 8 ((σ0 12 8) + r2)) r1 (σ0 12 8) j26) (Nat.le_of_ble_eq_true rfl) mV_X5_calculate m_1677 (recv_ob obC_12) rfl rfl (Nat.le_of_ble_eq_true rfl) d_X5_step_71 (k_v (fun σ25 ⟨iσ25, ik25⟩ => ?_)) (fun _ _ _ h => h.elim)
          have kp : Keep [(11, 1), (11, 2), (12, 7), (12, 8), (12, 9), (12, 10), (12, 11), (12, 13), (12, 14), (12, 15), (12, 16), (12, 17), (12, 18)] [61, 62, 63, 64] σ0 σ25 := keep_c kp ik25 (by decide) (by decide)
          refine g_goto hF 149 d_X5_step_74 (by decide) ?_
          exact g_vret hF rfl d_X5_step_149 ⟨rfl, rfl, rfl, ⟨iσ25, kp⟩⟩
      · -- not taken at 47
        refine g_aload_n hF d_X5_step_50 rfl 3 rfl ?_
        refine g_callV (As := []) (rest := []) hF (c_X5_stray a g r σ0 i0) (Nat.le_of_ble_eq_true rfl) mV_X5_stray m_1673 (recv_ob obC_12) rfl rfl (Nat.le_of_ble_eq_true rfl) d_X5_step_51 (k_v (fun σ27 ⟨iσ27, ik27⟩ => ?_)) (fun _ _ _ h => h.elim)
        have kp : Keep [(11, 1), (11, 2), (12, 7), (12, 8), (12, 9), (12, 10), (12, 11), (12, 13), (12, 14), (12, 15), (12, 16), (12, 17), (12, 18)] [61, 62, 63, 64] σ0 σ27 := keep_c kp ik27 (by decide) (by decide)
        exact g_vret hF rfl d_X5_step_54 ⟨rfl, rfl, rfl, ⟨iσ27, kp⟩⟩
set_option maxHeartbeats 4000000 in
set_option maxRecDepth 100000 in
theorem c_X7_leave_r9_r52 (a : Nat → Nat) (g : Nat → Nat → Int32) (r : Nat → Nat) (σ0 : St) (a1 : Int32) (i0 : Inv σ0) (l : Launch) (D : va_G) (cy : Nat → ClassId) : Ct l D cy SC r (EC a g) y_X7_leave (Cond.code y_X7_leave b_X7_leave 4 none) 1 [.ref (r 9), .int a1, .ref (r 52)] σ0 Z0 [] (QV (fun σ9 => (Inv σ9 ∧ Keep [(4, 1), (6, 3), (6, 4)] [24, 52] σ0 σ9))) QF := by
  refine Ct_of (EC_ok a g) (by decide) (Nat.le_of_ble_eq_true rfl) (by decide) (fun X hnn hF => ?_)
  show G SC r X σ0 Z0 [] [(0, .ref (r 9)), (1, .int a1), (2, .ref (r 52))] [] 0
  have b7 : ∀ (N : Nat) (σ : St) (x1 : Int32) (x3 : Int32) , dnm x3 = N → Inv σ → Keep [(4, 1), (6, 3), (6, 4)] [24, 52] σ0 σ → G SC r X σ Z0 [] [(0, .ref (r 9)), (1, .int x1), (2, .ref (r 52)), (3, .int x3)] [] 7 := by
    intro M7
    induction M7 using Nat.strongRecOn with
    | _ M7 ih7 =>
      intro σ x1 x3 N7 inv kp
      refine g_iload_n hF d_X7_leave_7 rfl 3 rfl ?_
      refine g_if_lt hF 28 d_X7_leave_8 (by decide) rfl (fun c1_8 => ?_) (fun c1_8 => ?_)
      · -- taken at 8
        refine g_iload_n hF d_X7_leave_28 rfl 3 rfl ?_
        refine g_if_ge hF 44 d_X7_leave_29 (by decide) rfl (fun c2_29 => ?_) (fun c2_29 => ?_)
        · -- taken at 29
          refine g_aload_n hF d_X7_leave_44 rfl 2 rfl ?_
          refine g_iload_n hF d_X7_leave_45 rfl 3 rfl ?_
          refine g_aload_n hF d_X7_leave_46 rfl 0 rfl ?_
          refine g_get (v := .ref (r 4)) hF 2 obC_9 (by decide) m_555 rfl d_X7_leave_47 ?_
          refine g_bipush hF (v := 26) d_X7_leave_50 (by decide) ?_
          refine g_aload_n hF d_X7_leave_52 rfl 2 rfl ?_
          refine g_iload_n hF d_X7_leave_53 rfl 3 rfl ?_
          refine g_callSN (As := [.ref (r 52), .int x3]) (rest := [.int 26, .ref (r 4), .int x3, .ref (r 52)]) hF (c_at a g r σ arC_52 (by decide) x3) (Nat.le_of_ble_eq_true rfl) mS_X12_at nm_1053 rfl rfl (Nat.le_of_ble_eq_true rfl) d_X7_leave_54 (k_rop (fun r3 hr3 => ?_))
          refine g_iconst hF (v := 0) d_X7_leave_57 (by decide) ?_
          refine g_iconst hF (v := 0) d_X7_leave_58 (by decide) ?_
          refine g_callVN (As := [.int 26, .int r3, .int 0, .int 0]) (rest := [.int x3, .ref (r 52)]) hF (c_X0_emit a g r σ (26 : Int32) r3 (0 : Int32) (0 : Int32) inv) (Nat.le_of_ble_eq_true rfl) mV_X0_emit nm_1298 (recv_ob obC_4) rfl rfl (Nat.le_of_ble_eq_true rfl) d_X7_leave_59 (k_i (fun r4 σ4 ⟨iσ4, ik4⟩ => ?_))
          have kp : Keep [(4, 1), (6, 3), (6, 4)] [24, 52] σ0 σ4 := keep_c kp ik4 (by decide) (by decide)
          refine g_callSN (As := [.ref (r 52), .int x3, .int r4]) (rest := []) hF (c_set a g r σ4 arC_52 (by decide) x3 r4) (Nat.le_of_ble_eq_true rfl) mS_X12_set nm_1312 rfl rfl (Nat.le_of_ble_eq_true rfl) d_X7_leave_62 (k_v (fun σ5 ⟨g5, eσ5, hg5⟩ => ?_))
          subst eσ5
          have kp : Keep [(4, 1), (6, 3), (6, 4)] [24, 52] σ0 (upF σ4 52 g5) := keep_F kp (by decide)
          have j6 : Inv (upF σ4 52 g5) := ⟨iσ4.1, iσ4.2.1, iσ4.2.2.1, iσ4.2.2.2.1, iσ4.2.2.2.2.1, iσ4.2.2.2.2.2.1, iσ4.2.2.2.2.2.2.1, iσ4.2.2.2.2.2.2.2.1, iσ4.2.2.2.2.2.2.2.2.1, iσ4.2.2.2.2.2.2.2.2.2.1, iσ4.2.2.2.2.2.2.2.2.2.2.1, iσ4.2.2.2.2.2.2.2.2.2.2.2.1, iσ4.2.2.2.2.2.2.2.2.2.2.2.2.1, iσ4.2.2.2.2.2.2.2.2.2.2.2.2.2.1, iσ4.2.2.2.2.2.2.2.2.2.2.2.2.2.2.1, iσ4.2.2.2.2.2.2.2.2.2.2.2.2.2.2.2.1, iσ4.2.2.2.2.2.2.2.2.2.2.2.2.2.2.2.2.1, iσ4.2.2.2.2.2.2.2.2.2.2.2.2.2.2.2.2.2.1, iσ4.2.2.2.2.2.2.2.2.2.2.2.2.2.2.2.2.2.2.1, iσ4.2.2.2.2.2.2.2.2.2.2.2.2.2.2.2.2.2.2.2⟩
          exact g_vret hF rfl d_X7_leave_65 ⟨rfl, rfl, rfl, ⟨j6, kp⟩⟩
        · -- not taken at 29
          refine g_aload_n hF d_X7_leave_32 rfl 0 rfl ?_
          refine g_get (v := .ref (r 6)) hF 1 obC_9 (by decide) m_554 rfl d_X7_leave_33 ?_
          refine g_iconst hF (v := 2) d_X7_leave_36 (by decide) ?_
          refine g_iload_n hF d_X7_leave_37 rfl 1 rfl ?_
          refine g_callVN (As := [.int 2, .int x1]) (rest := []) hF (c_X11_fail a g r σ (2 : Int32) x1 inv) (Nat.le_of_ble_eq_true rfl) mV_X11_fail nm_1307 (recv_ob obC_6) rfl rfl (Nat.le_of_ble_eq_true rfl) d_X7_leave_38 (k_v (fun σ7 ⟨iσ7, ik7⟩ => ?_))
          have kp : Keep [(4, 1), (6, 3), (6, 4)] [24, 52] σ0 σ7 := keep_c kp ik7 (by decide) (by decide)
          refine g_goto hF 65 d_X7_leave_41 (by decide) ?_
          exact g_vret hF rfl d_X7_leave_65 ⟨rfl, rfl, rfl, ⟨iσ7, kp⟩⟩
      · -- not taken at 8
        refine g_aload_n hF d_X7_leave_11 rfl 0 rfl ?_
        refine g_get (v := .ref (r 49)) hF 6 obC_9 (by decide) m_559 rfl d_X7_leave_12 ?_
        refine g_iload_n hF d_X7_leave_15 rfl 3 rfl ?_
        refine g_callSN (As := [.ref (r 49), .int x3]) (rest := []) hF (c_at a g r σ arC_49 (by decide) x3) (Nat.le_of_ble_eq_true rfl) mS_X12_at nm_1053 rfl rfl (Nat.le_of_ble_eq_true rfl) d_X7_leave_16 (k_rop (fun r8 hr8 => ?_))
        refine g_if_ne hF 28 d_X7_leave_19 (by decide) rfl (fun c9_19 => ?_) (fun c9_19 => ?_)
        · -- taken at 19
          refine g_iload_n hF d_X7_leave_28 rfl 3 rfl ?_
          refine g_if_ge hF 44 d_X7_leave_29 (by decide) rfl (fun c10_29 => ?_) (fun c10_29 => ?_)
          · -- taken at 29
            refine g_aload_n hF d_X7_leave_44 rfl 2 rfl ?_
            refine g_iload_n hF d_X7_leave_45 rfl 3 rfl ?_
            refine g_aload_n hF d_X7_leave_46 rfl 0 rfl ?_
            refine g_get (v := .ref (r 4)) hF 2 obC_9 (by decide) m_555 rfl d_X7_leave_47 ?_
            refine g_bipush hF (v := 26) d_X7_leave_50 (by decide) ?_
            refine g_aload_n hF d_X7_leave_52 rfl 2 rfl ?_
            refine g_iload_n hF d_X7_leave_53 rfl 3 rfl ?_
            refine g_callSN (As := [.ref (r 52), .int x3]) (rest := [.int 26, .ref (r 4), .int x3, .ref (r 52)]) hF (c_at a g r σ arC_52 (by decide) x3) (Nat.le_of_ble_eq_true rfl) mS_X12_at nm_1053 rfl rfl (Nat.le_of_ble_eq_true rfl) d_X7_leave_54 (k_rop (fun r11 hr11 => ?_))
            refine g_iconst hF (v := 0) d_X7_leave_57 (by decide) ?_
            refine g_iconst hF (v := 0) d_X7_leave_58 (by decide) ?_
            refine g_callVN (As := [.int 26, .int r11, .int 0, .int 0]) (rest := [.int x3, .ref (r 52)]) hF (c_X0_emit a g r σ (26 : Int32) r11 (0 : Int32) (0 : Int32) inv) (Nat.le_of_ble_eq_true rfl) mV_X0_emit nm_1298 (recv_ob obC_4) rfl rfl (Nat.le_of_ble_eq_true rfl) d_X7_leave_59 (k_i (fun r12 σ12 ⟨iσ12, ik12⟩ => ?_))
            have kp : Keep [(4, 1), (6, 3), (6, 4)] [24, 52] σ0 σ12 := keep_c kp ik12 (by decide) (by decide)
            refine g_callSN (As := [.ref (r 52), .int x3, .int r12]) (rest := []) hF (c_set a g r σ12 arC_52 (by decide) x3 r12) (Nat.le_of_ble_eq_true rfl) mS_X12_set nm_1312 rfl rfl (Nat.le_of_ble_eq_true rfl) d_X7_leave_62 (k_v (fun σ13 ⟨g13, eσ13, hg13⟩ => ?_))
            subst eσ13
            have kp : Keep [(4, 1), (6, 3), (6, 4)] [24, 52] σ0 (upF σ12 52 g13) := keep_F kp (by decide)
            have j14 : Inv (upF σ12 52 g13) := ⟨iσ12.1, iσ12.2.1, iσ12.2.2.1, iσ12.2.2.2.1, iσ12.2.2.2.2.1, iσ12.2.2.2.2.2.1, iσ12.2.2.2.2.2.2.1, iσ12.2.2.2.2.2.2.2.1, iσ12.2.2.2.2.2.2.2.2.1, iσ12.2.2.2.2.2.2.2.2.2.1, iσ12.2.2.2.2.2.2.2.2.2.2.1, iσ12.2.2.2.2.2.2.2.2.2.2.2.1, iσ12.2.2.2.2.2.2.2.2.2.2.2.2.1, iσ12.2.2.2.2.2.2.2.2.2.2.2.2.2.1, iσ12.2.2.2.2.2.2.2.2.2.2.2.2.2.2.1, iσ12.2.2.2.2.2.2.2.2.2.2.2.2.2.2.2.1, iσ12.2.2.2.2.2.2.2.2.2.2.2.2.2.2.2.2.1, iσ12.2.2.2.2.2.2.2.2.2.2.2.2.2.2.2.2.2.1, iσ12.2.2.2.2.2.2.2.2.2.2.2.2.2.2.2.2.2.2.1, iσ12.2.2.2.2.2.2.2.2.2.2.2.2.2.2.2.2.2.2.2⟩
            exact g_vret hF rfl d_X7_leave_65 ⟨rfl, rfl, rfl, ⟨j14, kp⟩⟩
          · -- not taken at 29
            refine g_aload_n hF d_X7_leave_32 rfl 0 rfl ?_
            refine g_get (v := .ref (r 6)) hF 1 obC_9 (by decide) m_554 rfl d_X7_leave_33 ?_
            refine g_iconst hF (v := 2) d_X7_leave_36 (by decide) ?_
            refine g_iload_n hF d_X7_leave_37 rfl 1 rfl ?_
            refine g_callVN (As := [.int 2, .int x1]) (rest := []) hF (c_X11_fail a g r σ (2 : Int32) x1 inv) (Nat.le_of_ble_eq_true rfl) mV_X11_fail nm_1307 (recv_ob obC_6) rfl rfl (Nat.le_of_ble_eq_true rfl) d_X7_leave_38 (k_v (fun σ15 ⟨iσ15, ik15⟩ => ?_))
            have kp : Keep [(4, 1), (6, 3), (6, 4)] [24, 52] σ0 σ15 := keep_c kp ik15 (by decide) (by decide)
            refine g_goto hF 65 d_X7_leave_41 (by decide) ?_
            exact g_vret hF rfl d_X7_leave_65 ⟨rfl, rfl, rfl, ⟨iσ15, kp⟩⟩
        · -- not taken at 19
          refine g_iinc hF (x3 + (-1)) [(3, .int (x3 + (-1))), (0, .ref (r 9)), (1, .int x1), (2, .ref (r 52))] d_X7_leave_22 3 rfl rfl hnn (by decide) rfl ?_
          refine g_goto hF 7 d_X7_leave_25 (by decide) ?_
          exact g_sub (L' := [(0, .ref (r 9)), (1, .int x1), (2, .ref (r 52)), (3, .int (x3 + (-1)))]) [1, 2, 3, 0] rfl (ih7 _ (N7 ▸ dnm_le c1_8 (by have e0 : (0 : Int32).toInt = 0 := (by decide); have e1 := s_rng x3; have e2 := s_rng r8; omega)) σ x1 (x3 + (-1)) rfl inv kp)
  have kp : Keep [(4, 1), (6, 3), (6, 4)] [24, 52] σ0 σ0 := keep_rf
  refine g_aload_n hF d_X7_leave_0 rfl 0 rfl ?_
  refine g_get (v := .int (σ0 9 5)) hF 5 obC_9 (by decide) m_558 rfl d_X7_leave_1 ?_
  refine g_iconst hF (v := 1) d_X7_leave_4 (by decide) ?_
  refine g_isub hF d_X7_leave_5 ?_
  refine g_istore_n hF [(3, .int ((σ0 9 5) - 1)), (0, .ref (r 9)), (1, .int a1), (2, .ref (r 52))] d_X7_leave_6 rfl hnn (by decide) rfl ?_
  exact g_sub (L' := [(0, .ref (r 9)), (1, .int a1), (2, .ref (r 52)), (3, .int ((σ0 9 5) - 1))]) [1, 2, 3, 0] rfl (b7 _ σ0 a1 ((σ0 9 5) - 1) rfl i0 kp)
set_option maxHeartbeats 4000000 in
set_option maxRecDepth 100000 in
theorem c_X5_execute (a : Nat → Nat) (g : Nat → Nat → Int32) (r : Nat → Nat) (σ0 : St) (a1 : Int32) (i0 : Inv σ0) (l : Launch) (D : va_G) (cy : Nat → ClassId) : Ct l D cy SC r (EC a g) y_X5_execute (Cond.code y_X5_execute b_X5_execute 6 (some .int)) 6 [.ref (r 12), .int a1] σ0 Z0 [] (QI (fun _ σ9 => (Inv σ9 ∧ Keep [(11, 0), (11, 1), (11, 2), (12, 7), (12, 8), (12, 9), (12, 10), (12, 11), (12, 12), (12, 13), (12, 14), (12, 15), (12, 16), (12, 17), (12, 18)] [61, 62, 63, 64] σ0 σ9))) QF := by
  refine Ct_of (EC_ok a g) (by decide) (Nat.le_of_ble_eq_true rfl) (by decide) (fun X hnn hF => ?_)
  show G SC r X σ0 Z0 [] [(0, .ref (r 12)), (1, .int a1)] [] 0
  have b48 : ∀ (N : Nat) (σ : St) (x1 : Int32) (x2 : Int64) (x4 : Int64) , lup x2 x4 = N → Inv σ → Keep [(11, 0), (11, 1), (11, 2), (12, 7), (12, 8), (12, 9), (12, 10), (12, 11), (12, 12), (12, 13), (12, 14), (12, 15), (12, 16), (12, 17), (12, 18)] [61, 62, 63, 64] σ0 σ → G SC r X σ Z0 [] [(0, .ref (r 12)), (1, .int x1), (2, .long x2), (4, .long x4)] [] 48 := by
    intro M48
    induction M48 using Nat.strongRecOn with
    | _ M48 ih48 =>
      intro σ x1 x2 x4 N48 inv kp
      refine g_lload hF d_X5_execute_48 3 rfl ?_
      refine g_lload_n hF d_X5_execute_50 rfl 2 rfl ?_
      refine g_lcmp hF d_X5_execute_51 ?_
      refine g_if_ge hF 76 d_X5_execute_52 (by decide) rfl (fun c1_52 => ?_) (fun c1_52 => ?_)
      · -- taken at 52
        refine g_aload_n hF d_X5_execute_76 rfl 0 rfl ?_
        refine g_get (v := .int (σ 12 13)) hF 13 obC_12 (by decide) m_685 rfl d_X5_execute_77 ?_
        refine g_iconst hF (v := (-1)) d_X5_execute_80 (by decide) ?_
        refine g_icmp_ne (yv := -1) hF 88 d_X5_execute_81 (by decide) rfl (by decide) (fun c2_81 => ?_) (fun c2_81 => ?_)
        · -- taken at 81
          refine g_aload_n hF d_X5_execute_88 rfl 0 rfl ?_
          refine g_get (v := .ref (r 11)) hF 2 obC_12 (by decide) m_673 rfl d_X5_execute_89 ?_
          refine g_callVN (As := []) (rest := []) hF (c_X9_useUp a g r σ inv) (Nat.le_of_ble_eq_true rfl) mV_X9_useUp nm_1752 (recv_ob obC_11) rfl rfl (Nat.le_of_ble_eq_true rfl) d_X5_execute_92 (k_v (fun σ3 ⟨iσ3, ik3⟩ => ?_))
          have kp : Keep [(11, 0), (11, 1), (11, 2), (12, 7), (12, 8), (12, 9), (12, 10), (12, 11), (12, 12), (12, 13), (12, 14), (12, 15), (12, 16), (12, 17), (12, 18)] [61, 62, 63, 64] σ0 σ3 := keep_c kp ik3 (by decide) (by decide)
          refine g_aload_n hF d_X5_execute_95 rfl 0 rfl ?_
          refine g_get (v := .int (σ3 12 13)) hF 13 obC_12 (by decide) m_685 rfl d_X5_execute_96 ?_
          refine g_top (v := (σ 12 13)) (ik3 12 13 rfl rfl rfl) ?_
          exact g_iret hF rfl d_X5_execute_99 ⟨rfl, rfl, (σ 12 13), rfl, ⟨iσ3, kp⟩⟩
        · -- not taken at 81
          refine g_aload_n hF d_X5_execute_84 rfl 0 rfl ?_
          refine g_callV (As := []) (rest := []) hF (c_X5_stray a g r σ inv) (Nat.le_of_ble_eq_true rfl) mV_X5_stray m_1673 (recv_ob obC_12) rfl rfl (Nat.le_of_ble_eq_true rfl) d_X5_execute_85 (k_v (fun σ4 ⟨iσ4, ik4⟩ => ?_)) (fun _ _ _ h => h.elim)
          have kp : Keep [(11, 0), (11, 1), (11, 2), (12, 7), (12, 8), (12, 9), (12, 10), (12, 11), (12, 12), (12, 13), (12, 14), (12, 15), (12, 16), (12, 17), (12, 18)] [61, 62, 63, 64] σ0 σ4 := keep_c kp ik4 (by decide) (by decide)
          refine g_aload_n hF d_X5_execute_88 rfl 0 rfl ?_
          refine g_get (v := .ref (r 11)) hF 2 obC_12 (by decide) m_673 rfl d_X5_execute_89 ?_
          refine g_callVN (As := []) (rest := []) hF (c_X9_useUp a g r σ4 iσ4) (Nat.le_of_ble_eq_true rfl) mV_X9_useUp nm_1752 (recv_ob obC_11) rfl rfl (Nat.le_of_ble_eq_true rfl) d_X5_execute_92 (k_v (fun σ5 ⟨iσ5, ik5⟩ => ?_))
          have kp : Keep [(11, 0), (11, 1), (11, 2), (12, 7), (12, 8), (12, 9), (12, 10), (12, 11), (12, 12), (12, 13), (12, 14), (12, 15), (12, 16), (12, 17), (12, 18)] [61, 62, 63, 64] σ0 σ5 := keep_c kp ik5 (by decide) (by decide)
          refine g_aload_n hF d_X5_execute_95 rfl 0 rfl ?_
          refine g_get (v := .int (σ5 12 13)) hF 13 obC_12 (by decide) m_685 rfl d_X5_execute_96 ?_
          refine g_top (v := (σ4 12 13)) (ik5 12 13 rfl rfl rfl) ?_
          exact g_iret hF rfl d_X5_execute_99 ⟨rfl, rfl, (σ4 12 13), rfl, ⟨iσ5, kp⟩⟩
      · -- not taken at 52
        refine g_aload_n hF d_X5_execute_55 rfl 0 rfl ?_
        refine g_get (v := .int (σ 12 13)) hF 13 obC_12 (by decide) m_685 rfl d_X5_execute_56 ?_
        refine g_iconst hF (v := (-1)) d_X5_execute_59 (by decide) ?_
        refine g_icmp_ne (yv := -1) hF 76 d_X5_execute_60 (by decide) rfl (by decide) (fun c6_60 => ?_) (fun c6_60 => ?_)
        · -- taken at 60
          refine g_aload_n hF d_X5_execute_76 rfl 0 rfl ?_
          refine g_get (v := .int (σ 12 13)) hF 13 obC_12 (by decide) m_685 rfl d_X5_execute_77 ?_
          refine g_iconst hF (v := (-1)) d_X5_execute_80 (by decide) ?_
          refine g_icmp_ne (yv := -1) hF 88 d_X5_execute_81 (by decide) rfl (by decide) (fun c7_81 => ?_) (fun c7_81 => ?_)
          · -- taken at 81
            refine g_aload_n hF d_X5_execute_88 rfl 0 rfl ?_
            refine g_get (v := .ref (r 11)) hF 2 obC_12 (by decide) m_673 rfl d_X5_execute_89 ?_
            refine g_callVN (As := []) (rest := []) hF (c_X9_useUp a g r σ inv) (Nat.le_of_ble_eq_true rfl) mV_X9_useUp nm_1752 (recv_ob obC_11) rfl rfl (Nat.le_of_ble_eq_true rfl) d_X5_execute_92 (k_v (fun σ8 ⟨iσ8, ik8⟩ => ?_))
            have kp : Keep [(11, 0), (11, 1), (11, 2), (12, 7), (12, 8), (12, 9), (12, 10), (12, 11), (12, 12), (12, 13), (12, 14), (12, 15), (12, 16), (12, 17), (12, 18)] [61, 62, 63, 64] σ0 σ8 := keep_c kp ik8 (by decide) (by decide)
            refine g_aload_n hF d_X5_execute_95 rfl 0 rfl ?_
            refine g_get (v := .int (σ8 12 13)) hF 13 obC_12 (by decide) m_685 rfl d_X5_execute_96 ?_
            refine g_top (v := (σ 12 13)) (ik8 12 13 rfl rfl rfl) ?_
            exact g_iret hF rfl d_X5_execute_99 ⟨rfl, rfl, (σ 12 13), rfl, ⟨iσ8, kp⟩⟩
          · -- not taken at 81
            refine g_aload_n hF d_X5_execute_84 rfl 0 rfl ?_
            refine g_callV (As := []) (rest := []) hF (c_X5_stray a g r σ inv) (Nat.le_of_ble_eq_true rfl) mV_X5_stray m_1673 (recv_ob obC_12) rfl rfl (Nat.le_of_ble_eq_true rfl) d_X5_execute_85 (k_v (fun σ9 ⟨iσ9, ik9⟩ => ?_)) (fun _ _ _ h => h.elim)
            have kp : Keep [(11, 0), (11, 1), (11, 2), (12, 7), (12, 8), (12, 9), (12, 10), (12, 11), (12, 12), (12, 13), (12, 14), (12, 15), (12, 16), (12, 17), (12, 18)] [61, 62, 63, 64] σ0 σ9 := keep_c kp ik9 (by decide) (by decide)
            refine g_aload_n hF d_X5_execute_88 rfl 0 rfl ?_
            refine g_get (v := .ref (r 11)) hF 2 obC_12 (by decide) m_673 rfl d_X5_execute_89 ?_
            refine g_callVN (As := []) (rest := []) hF (c_X9_useUp a g r σ9 iσ9) (Nat.le_of_ble_eq_true rfl) mV_X9_useUp nm_1752 (recv_ob obC_11) rfl rfl (Nat.le_of_ble_eq_true rfl) d_X5_execute_92 (k_v (fun σ10 ⟨iσ10, ik10⟩ => ?_))
            have kp : Keep [(11, 0), (11, 1), (11, 2), (12, 7), (12, 8), (12, 9), (12, 10), (12, 11), (12, 12), (12, 13), (12, 14), (12, 15), (12, 16), (12, 17), (12, 18)] [61, 62, 63, 64] σ0 σ10 := keep_c kp ik10 (by decide) (by decide)
            refine g_aload_n hF d_X5_execute_95 rfl 0 rfl ?_
            refine g_get (v := .int (σ10 12 13)) hF 13 obC_12 (by decide) m_685 rfl d_X5_execute_96 ?_
            refine g_top (v := (σ9 12 13)) (ik10 12 13 rfl rfl rfl) ?_
            exact g_iret hF rfl d_X5_execute_99 ⟨rfl, rfl, (σ9 12 13), rfl, ⟨iσ10, kp⟩⟩
        · -- not taken at 60
          refine g_aload_n hF d_X5_execute_63 rfl 0 rfl ?_
          refine g_callV (As := []) (rest := []) hF (c_X5_step a g r σ inv) (Nat.le_of_ble_eq_true rfl) mV_X5_step m_1668 (recv_ob obC_12) rfl rfl (Nat.le_of_ble_eq_true rfl) d_X5_execute_64 (k_v (fun σ11 ⟨iσ11, ik11⟩ => ?_)) (fun _ _ _ h => h.elim)
          have kp : Keep [(11, 0), (11, 1), (11, 2), (12, 7), (12, 8), (12, 9), (12, 10), (12, 11), (12, 12), (12, 13), (12, 14), (12, 15), (12, 16), (12, 17), (12, 18)] [61, 62, 63, 64] σ0 σ11 := keep_c kp ik11 (by decide) (by decide)
          refine g_lload hF d_X5_execute_67 3 rfl ?_
          refine g_lconst hF (v := 1) d_X5_execute_69 (by decide) ?_
          refine g_ladd hF d_X5_execute_70 ?_
          refine g_lstore hF [(4, .long (x4 + (1 : Int64))), (0, .ref (r 12)), (1, .int x1), (2, .long x2)] d_X5_execute_71 hnn (by decide) rfl ?_
          refine g_goto hF 48 d_X5_execute_73 (by decide) ?_
          exact g_sub (L' := [(0, .ref (r 12)), (1, .int x1), (2, .long x2), (4, .long (x4 + (1 : Int64)))]) [1, 2, 3, 0] rfl (ih48 _ (N48 ▸ lup_lt c1_52) σ11 x1 x2 (x4 + (1 : Int64)) rfl iσ11 kp)
  have kp : Keep [(11, 0), (11, 1), (11, 2), (12, 7), (12, 8), (12, 9), (12, 10), (12, 11), (12, 12), (12, 13), (12, 14), (12, 15), (12, 16), (12, 17), (12, 18)] [61, 62, 63, 64] σ0 σ0 := keep_rf
  refine g_aload_n hF d_X5_execute_0 rfl 0 rfl ?_
  refine g_iload_n hF d_X5_execute_1 rfl 1 rfl ?_
  refine g_callV (As := [.int a1]) (rest := []) hF (c_X5_begin a g r σ0 a1 i0) (Nat.le_of_ble_eq_true rfl) mV_X5_begin m_1633 (recv_ob obC_12) rfl rfl (Nat.le_of_ble_eq_true rfl) d_X5_execute_2 (k_v (fun σ12 ⟨iσ12, ik12⟩ => ?_)) (fun _ _ _ h => h.elim)
  have kp : Keep [(11, 0), (11, 1), (11, 2), (12, 7), (12, 8), (12, 9), (12, 10), (12, 11), (12, 12), (12, 13), (12, 14), (12, 15), (12, 16), (12, 17), (12, 18)] [61, 62, 63, 64] σ0 σ12 := keep_c kp ik12 (by decide) (by decide)
  refine g_aload_n hF d_X5_execute_5 rfl 0 rfl ?_
  refine g_aload_n hF d_X5_execute_6 rfl 0 rfl ?_
  refine g_get (v := .ref (r 10)) hF 1 obC_12 (by decide) m_672 rfl d_X5_execute_7 ?_
  refine g_getN (v := .int (σ12 10 11)) hF 11 obC_10 (by decide) nm_614 rfl d_X5_execute_10 ?_
  refine g_top (v := (σ0 10 11)) (ik12 10 11 rfl rfl rfl) ?_
  refine g_iconst hF (v := 0) d_X5_execute_13 (by decide) ?_
  refine g_callV (As := [.int (σ0 10 11), .int 0]) (rest := []) hF (c_X5_enter a g r σ12 (σ0 10 11) (0 : Int32) iσ12) (Nat.le_of_ble_eq_true rfl) mV_X5_enter m_1648 (recv_ob obC_12) rfl rfl (Nat.le_of_ble_eq_true rfl) d_X5_execute_14 (k_v (fun σ13 ⟨iσ13, ik13⟩ => ?_)) (fun _ _ _ h => h.elim)
  have kp : Keep [(11, 0), (11, 1), (11, 2), (12, 7), (12, 8), (12, 9), (12, 10), (12, 11), (12, 12), (12, 13), (12, 14), (12, 15), (12, 16), (12, 17), (12, 18)] [61, 62, 63, 64] σ0 σ13 := keep_c kp ik13 (by decide) (by decide)
  refine g_ldc2 (v := 4) hF m_1666 d_X5_execute_17 ?_
  refine g_aload_n hF d_X5_execute_20 rfl 0 rfl ?_
  refine g_get (v := .int (σ13 12 12)) hF 12 obC_12 (by decide) m_684 rfl d_X5_execute_21 ?_
  refine g_top (v := (σ12 12 12)) (ik13 12 12 rfl rfl rfl) ?_
  refine g_i2l hF d_X5_execute_24 ?_
  refine g_anyl (fun w14 => ?_)
  refine g_lmul hF d_X5_execute_25 ?_
  refine g_ldc2 (v := 8) hF m_1667 d_X5_execute_26 ?_
  refine g_ladd hF d_X5_execute_29 ?_
  refine g_aload_n hF d_X5_execute_30 rfl 0 rfl ?_
  refine g_get (v := .ref (r 5)) hF 0 obC_12 (by decide) m_671 rfl d_X5_execute_31 ?_
  refine g_getN (v := .ref (r 4)) hF 0 obC_5 (by decide) nm_220 rfl d_X5_execute_34 ?_
  refine g_getN (v := .int (σ13 4 1)) hF 1 obC_4 (by decide) nm_153 rfl d_X5_execute_37 ?_
  refine g_top (v := (σ0 4 1)) ((ik13 4 1 rfl rfl rfl).trans (ik12 4 1 rfl rfl rfl)) ?_
  refine g_i2l hF d_X5_execute_40 ?_
  refine g_anyl (fun w15 => ?_)
  refine g_lconst hF (v := 1) d_X5_execute_41 (by decide) ?_
  refine g_ladd hF d_X5_execute_42 ?_
  refine g_lmul hF d_X5_execute_43 ?_
  refine g_lstore_n hF [(2, .long ((((4 : Int64) * w14) + (8 : Int64)) * (w15 + (1 : Int64)))), (0, .ref (r 12)), (1, .int a1)] d_X5_execute_44 rfl hnn (by decide) rfl ?_
  refine g_lconst hF (v := 0) d_X5_execute_45 (by decide) ?_
  refine g_lstore hF [(4, .long 0), (2, .long ((((4 : Int64) * w14) + (8 : Int64)) * (w15 + (1 : Int64)))), (0, .ref (r 12)), (1, .int a1)] d_X5_execute_46 hnn (by decide) rfl ?_
  exact g_sub (L' := [(0, .ref (r 12)), (1, .int a1), (2, .long ((((4 : Int64) * w14) + (8 : Int64)) * (w15 + (1 : Int64)))), (4, .long 0)]) [2, 3, 1, 0] rfl (b48 _ σ13 a1 ((((4 : Int64) * w14) + (8 : Int64)) * (w15 + (1 : Int64))) (0 : Int64) rfl iσ13 kp)
set_option maxHeartbeats 4000000 in
set_option maxRecDepth 100000 in
theorem c_X7_leave_r9_r51 (a : Nat → Nat) (g : Nat → Nat → Int32) (r : Nat → Nat) (σ0 : St) (a1 : Int32) (i0 : Inv σ0) (l : Launch) (D : va_G) (cy : Nat → ClassId) : Ct l D cy SC r (EC a g) y_X7_leave (Cond.code y_X7_leave b_X7_leave 4 none) 1 [.ref (r 9), .int a1, .ref (r 51)] σ0 Z0 [] (QV (fun σ9 => (Inv σ9 ∧ Keep [(4, 1), (6, 3), (6, 4)] [24, 51] σ0 σ9))) QF := by
  refine Ct_of (EC_ok a g) (by decide) (Nat.le_of_ble_eq_true rfl) (by decide) (fun X hnn hF => ?_)
  show G SC r X σ0 Z0 [] [(0, .ref (r 9)), (1, .int a1), (2, .ref (r 51))] [] 0
  have b7 : ∀ (N : Nat) (σ : St) (x1 : Int32) (x3 : Int32) , dnm x3 = N → Inv σ → Keep [(4, 1), (6, 3), (6, 4)] [24, 51] σ0 σ → G SC r X σ Z0 [] [(0, .ref (r 9)), (1, .int x1), (2, .ref (r 51)), (3, .int x3)] [] 7 := by
    intro M7
    induction M7 using Nat.strongRecOn with
    | _ M7 ih7 =>
      intro σ x1 x3 N7 inv kp
      refine g_iload_n hF d_X7_leave_7 rfl 3 rfl ?_
      refine g_if_lt hF 28 d_X7_leave_8 (by decide) rfl (fun c1_8 => ?_) (fun c1_8 => ?_)
      · -- taken at 8
        refine g_iload_n hF d_X7_leave_28 rfl 3 rfl ?_
        refine g_if_ge hF 44 d_X7_leave_29 (by decide) rfl (fun c2_29 => ?_) (fun c2_29 => ?_)
        · -- taken at 29
          refine g_aload_n hF d_X7_leave_44 rfl 2 rfl ?_
          refine g_iload_n hF d_X7_leave_45 rfl 3 rfl ?_
          refine g_aload_n hF d_X7_leave_46 rfl 0 rfl ?_
          refine g_get (v := .ref (r 4)) hF 2 obC_9 (by decide) m_555 rfl d_X7_leave_47 ?_
          refine g_bipush hF (v := 26) d_X7_leave_50 (by decide) ?_
          refine g_aload_n hF d_X7_leave_52 rfl 2 rfl ?_
          refine g_iload_n hF d_X7_leave_53 rfl 3 rfl ?_
          refine g_callSN (As := [.ref (r 51), .int x3]) (rest := [.int 26, .ref (r 4), .int x3, .ref (r 51)]) hF (c_at a g r σ arC_51 (by decide) x3) (Nat.le_of_ble_eq_true rfl) mS_X12_at nm_1053 rfl rfl (Nat.le_of_ble_eq_true rfl) d_X7_leave_54 (k_rop (fun r3 hr3 => ?_))
          refine g_iconst hF (v := 0) d_X7_leave_57 (by decide) ?_
          refine g_iconst hF (v := 0) d_X7_leave_58 (by decide) ?_
          refine g_callVN (As := [.int 26, .int r3, .int 0, .int 0]) (rest := [.int x3, .ref (r 51)]) hF (c_X0_emit a g r σ (26 : Int32) r3 (0 : Int32) (0 : Int32) inv) (Nat.le_of_ble_eq_true rfl) mV_X0_emit nm_1298 (recv_ob obC_4) rfl rfl (Nat.le_of_ble_eq_true rfl) d_X7_leave_59 (k_i (fun r4 σ4 ⟨iσ4, ik4⟩ => ?_))
          have kp : Keep [(4, 1), (6, 3), (6, 4)] [24, 51] σ0 σ4 := keep_c kp ik4 (by decide) (by decide)
          refine g_callSN (As := [.ref (r 51), .int x3, .int r4]) (rest := []) hF (c_set a g r σ4 arC_51 (by decide) x3 r4) (Nat.le_of_ble_eq_true rfl) mS_X12_set nm_1312 rfl rfl (Nat.le_of_ble_eq_true rfl) d_X7_leave_62 (k_v (fun σ5 ⟨g5, eσ5, hg5⟩ => ?_))
          subst eσ5
          have kp : Keep [(4, 1), (6, 3), (6, 4)] [24, 51] σ0 (upF σ4 51 g5) := keep_F kp (by decide)
          have j6 : Inv (upF σ4 51 g5) := ⟨iσ4.1, iσ4.2.1, iσ4.2.2.1, iσ4.2.2.2.1, iσ4.2.2.2.2.1, iσ4.2.2.2.2.2.1, iσ4.2.2.2.2.2.2.1, iσ4.2.2.2.2.2.2.2.1, iσ4.2.2.2.2.2.2.2.2.1, iσ4.2.2.2.2.2.2.2.2.2.1, iσ4.2.2.2.2.2.2.2.2.2.2.1, iσ4.2.2.2.2.2.2.2.2.2.2.2.1, iσ4.2.2.2.2.2.2.2.2.2.2.2.2.1, iσ4.2.2.2.2.2.2.2.2.2.2.2.2.2.1, iσ4.2.2.2.2.2.2.2.2.2.2.2.2.2.2.1, iσ4.2.2.2.2.2.2.2.2.2.2.2.2.2.2.2.1, iσ4.2.2.2.2.2.2.2.2.2.2.2.2.2.2.2.2.1, iσ4.2.2.2.2.2.2.2.2.2.2.2.2.2.2.2.2.2.1, iσ4.2.2.2.2.2.2.2.2.2.2.2.2.2.2.2.2.2.2.1, iσ4.2.2.2.2.2.2.2.2.2.2.2.2.2.2.2.2.2.2.2⟩
          exact g_vret hF rfl d_X7_leave_65 ⟨rfl, rfl, rfl, ⟨j6, kp⟩⟩
        · -- not taken at 29
          refine g_aload_n hF d_X7_leave_32 rfl 0 rfl ?_
          refine g_get (v := .ref (r 6)) hF 1 obC_9 (by decide) m_554 rfl d_X7_leave_33 ?_
          refine g_iconst hF (v := 2) d_X7_leave_36 (by decide) ?_
          refine g_iload_n hF d_X7_leave_37 rfl 1 rfl ?_
          refine g_callVN (As := [.int 2, .int x1]) (rest := []) hF (c_X11_fail a g r σ (2 : Int32) x1 inv) (Nat.le_of_ble_eq_true rfl) mV_X11_fail nm_1307 (recv_ob obC_6) rfl rfl (Nat.le_of_ble_eq_true rfl) d_X7_leave_38 (k_v (fun σ7 ⟨iσ7, ik7⟩ => ?_))
          have kp : Keep [(4, 1), (6, 3), (6, 4)] [24, 51] σ0 σ7 := keep_c kp ik7 (by decide) (by decide)
          refine g_goto hF 65 d_X7_leave_41 (by decide) ?_
          exact g_vret hF rfl d_X7_leave_65 ⟨rfl, rfl, rfl, ⟨iσ7, kp⟩⟩
      · -- not taken at 8
        refine g_aload_n hF d_X7_leave_11 rfl 0 rfl ?_
        refine g_get (v := .ref (r 49)) hF 6 obC_9 (by decide) m_559 rfl d_X7_leave_12 ?_
        refine g_iload_n hF d_X7_leave_15 rfl 3 rfl ?_
        refine g_callSN (As := [.ref (r 49), .int x3]) (rest := []) hF (c_at a g r σ arC_49 (by decide) x3) (Nat.le_of_ble_eq_true rfl) mS_X12_at nm_1053 rfl rfl (Nat.le_of_ble_eq_true rfl) d_X7_leave_16 (k_rop (fun r8 hr8 => ?_))
        refine g_if_ne hF 28 d_X7_leave_19 (by decide) rfl (fun c9_19 => ?_) (fun c9_19 => ?_)
        · -- taken at 19
          refine g_iload_n hF d_X7_leave_28 rfl 3 rfl ?_
          refine g_if_ge hF 44 d_X7_leave_29 (by decide) rfl (fun c10_29 => ?_) (fun c10_29 => ?_)
          · -- taken at 29
            refine g_aload_n hF d_X7_leave_44 rfl 2 rfl ?_
            refine g_iload_n hF d_X7_leave_45 rfl 3 rfl ?_
            refine g_aload_n hF d_X7_leave_46 rfl 0 rfl ?_
            refine g_get (v := .ref (r 4)) hF 2 obC_9 (by decide) m_555 rfl d_X7_leave_47 ?_
            refine g_bipush hF (v := 26) d_X7_leave_50 (by decide) ?_
            refine g_aload_n hF d_X7_leave_52 rfl 2 rfl ?_
            refine g_iload_n hF d_X7_leave_53 rfl 3 rfl ?_
            refine g_callSN (As := [.ref (r 51), .int x3]) (rest := [.int 26, .ref (r 4), .int x3, .ref (r 51)]) hF (c_at a g r σ arC_51 (by decide) x3) (Nat.le_of_ble_eq_true rfl) mS_X12_at nm_1053 rfl rfl (Nat.le_of_ble_eq_true rfl) d_X7_leave_54 (k_rop (fun r11 hr11 => ?_))
            refine g_iconst hF (v := 0) d_X7_leave_57 (by decide) ?_
            refine g_iconst hF (v := 0) d_X7_leave_58 (by decide) ?_
            refine g_callVN (As := [.int 26, .int r11, .int 0, .int 0]) (rest := [.int x3, .ref (r 51)]) hF (c_X0_emit a g r σ (26 : Int32) r11 (0 : Int32) (0 : Int32) inv) (Nat.le_of_ble_eq_true rfl) mV_X0_emit nm_1298 (recv_ob obC_4) rfl rfl (Nat.le_of_ble_eq_true rfl) d_X7_leave_59 (k_i (fun r12 σ12 ⟨iσ12, ik12⟩ => ?_))
            have kp : Keep [(4, 1), (6, 3), (6, 4)] [24, 51] σ0 σ12 := keep_c kp ik12 (by decide) (by decide)
            refine g_callSN (As := [.ref (r 51), .int x3, .int r12]) (rest := []) hF (c_set a g r σ12 arC_51 (by decide) x3 r12) (Nat.le_of_ble_eq_true rfl) mS_X12_set nm_1312 rfl rfl (Nat.le_of_ble_eq_true rfl) d_X7_leave_62 (k_v (fun σ13 ⟨g13, eσ13, hg13⟩ => ?_))
            subst eσ13
            have kp : Keep [(4, 1), (6, 3), (6, 4)] [24, 51] σ0 (upF σ12 51 g13) := keep_F kp (by decide)
            have j14 : Inv (upF σ12 51 g13) := ⟨iσ12.1, iσ12.2.1, iσ12.2.2.1, iσ12.2.2.2.1, iσ12.2.2.2.2.1, iσ12.2.2.2.2.2.1, iσ12.2.2.2.2.2.2.1, iσ12.2.2.2.2.2.2.2.1, iσ12.2.2.2.2.2.2.2.2.1, iσ12.2.2.2.2.2.2.2.2.2.1, iσ12.2.2.2.2.2.2.2.2.2.2.1, iσ12.2.2.2.2.2.2.2.2.2.2.2.1, iσ12.2.2.2.2.2.2.2.2.2.2.2.2.1, iσ12.2.2.2.2.2.2.2.2.2.2.2.2.2.1, iσ12.2.2.2.2.2.2.2.2.2.2.2.2.2.2.1, iσ12.2.2.2.2.2.2.2.2.2.2.2.2.2.2.2.1, iσ12.2.2.2.2.2.2.2.2.2.2.2.2.2.2.2.2.1, iσ12.2.2.2.2.2.2.2.2.2.2.2.2.2.2.2.2.2.1, iσ12.2.2.2.2.2.2.2.2.2.2.2.2.2.2.2.2.2.2.1, iσ12.2.2.2.2.2.2.2.2.2.2.2.2.2.2.2.2.2.2.2⟩
            exact g_vret hF rfl d_X7_leave_65 ⟨rfl, rfl, rfl, ⟨j14, kp⟩⟩
          · -- not taken at 29
            refine g_aload_n hF d_X7_leave_32 rfl 0 rfl ?_
            refine g_get (v := .ref (r 6)) hF 1 obC_9 (by decide) m_554 rfl d_X7_leave_33 ?_
            refine g_iconst hF (v := 2) d_X7_leave_36 (by decide) ?_
            refine g_iload_n hF d_X7_leave_37 rfl 1 rfl ?_
            refine g_callVN (As := [.int 2, .int x1]) (rest := []) hF (c_X11_fail a g r σ (2 : Int32) x1 inv) (Nat.le_of_ble_eq_true rfl) mV_X11_fail nm_1307 (recv_ob obC_6) rfl rfl (Nat.le_of_ble_eq_true rfl) d_X7_leave_38 (k_v (fun σ15 ⟨iσ15, ik15⟩ => ?_))
            have kp : Keep [(4, 1), (6, 3), (6, 4)] [24, 51] σ0 σ15 := keep_c kp ik15 (by decide) (by decide)
            refine g_goto hF 65 d_X7_leave_41 (by decide) ?_
            exact g_vret hF rfl d_X7_leave_65 ⟨rfl, rfl, rfl, ⟨iσ15, kp⟩⟩
        · -- not taken at 19
          refine g_iinc hF (x3 + (-1)) [(3, .int (x3 + (-1))), (0, .ref (r 9)), (1, .int x1), (2, .ref (r 51))] d_X7_leave_22 3 rfl rfl hnn (by decide) rfl ?_
          refine g_goto hF 7 d_X7_leave_25 (by decide) ?_
          exact g_sub (L' := [(0, .ref (r 9)), (1, .int x1), (2, .ref (r 51)), (3, .int (x3 + (-1)))]) [1, 2, 3, 0] rfl (ih7 _ (N7 ▸ dnm_le c1_8 (by have e0 : (0 : Int32).toInt = 0 := (by decide); have e1 := s_rng x3; have e2 := s_rng r8; omega)) σ x1 (x3 + (-1)) rfl inv kp)
  have kp : Keep [(4, 1), (6, 3), (6, 4)] [24, 51] σ0 σ0 := keep_rf
  refine g_aload_n hF d_X7_leave_0 rfl 0 rfl ?_
  refine g_get (v := .int (σ0 9 5)) hF 5 obC_9 (by decide) m_558 rfl d_X7_leave_1 ?_
  refine g_iconst hF (v := 1) d_X7_leave_4 (by decide) ?_
  refine g_isub hF d_X7_leave_5 ?_
  refine g_istore_n hF [(3, .int ((σ0 9 5) - 1)), (0, .ref (r 9)), (1, .int a1), (2, .ref (r 51))] d_X7_leave_6 rfl hnn (by decide) rfl ?_
  exact g_sub (L' := [(0, .ref (r 9)), (1, .int a1), (2, .ref (r 51)), (3, .int ((σ0 9 5) - 1))]) [1, 2, 3, 0] rfl (b7 _ σ0 a1 ((σ0 9 5) - 1) rfl i0 kp)
