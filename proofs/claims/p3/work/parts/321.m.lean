set_option maxHeartbeats 4000000 in
set_option maxRecDepth 100000 in
theorem c_X4_join (a : Nat → Nat) (g : Nat → Nat → Int32) (r : Nat → Nat) (σ0 : St) (i0 : Inv σ0) (l : Launch) (D : va_G) (cy : Nat → ClassId) : Ct l D cy SC r (EC a g) y_X4_join (Cond.code y_X4_join b_X4_join 4 (some .int)) 6 [.ref (r 10)] σ0 Z0 [] (QI (fun _ σ9 => (Inv σ9 ∧ Keep [(10, 2), (10, 3), (10, 4), (10, 5), (10, 7), (10, 11)] [57, 58, 59] σ0 σ9))) QF := by
  refine Ct_of (EC_ok a g) (by decide) (Nat.le_of_ble_eq_true rfl) (by decide) (fun X hnn hF => ?_)
  show G SC r X σ0 Z0 [] [(0, .ref (r 10))] [] 0
  have b34 : ∀ (N : Nat) (σ : St) (x1 : Int32) (x2 : Int32) (x3 : Int32) , upm x3 = N → Inv σ → Keep [(10, 2), (10, 3), (10, 4), (10, 5), (10, 7), (10, 11)] [57, 58, 59] σ0 σ → G SC r X σ Z0 [] [(0, .ref (r 10)), (1, .int x1), (2, .int x2), (3, .int x3)] [] 34 := by
    intro M34
    induction M34 using Nat.strongRecOn with
    | _ M34 ih34 =>
      intro σ x1 x2 x3 N34 inv kp
      refine g_iload_n hF d_X4_join_34 rfl 3 rfl ?_
      refine g_bipush hF (v := 33) d_X4_join_35 (by decide) ?_
      refine g_icmp_gt (yv := 33) hF 56 d_X4_join_37 (by decide) rfl (by decide) (fun c1_37 => ?_) (fun c1_37 => ?_)
      · -- taken at 37
        refine g_iload_n hF d_X4_join_56 rfl 2 rfl ?_
        refine g_if_ne hF 71 d_X4_join_57 (by decide) rfl (fun c2_57 => ?_) (fun c2_57 => ?_)
        · -- taken at 57
          refine g_iload_n hF d_X4_join_71 rfl 2 rfl ?_
          refine g_if_ne hF 88 d_X4_join_72 (by decide) rfl (fun c3_72 => ?_) (fun c3_72 => ?_)
          · -- taken at 72
            refine g_iload_n hF d_X4_join_88 rfl 2 rfl ?_
            refine g_if_ne hF 113 d_X4_join_89 (by decide) rfl (fun c4_89 => ?_) (fun c4_89 => ?_)
            · -- taken at 89
              refine g_aload_n hF d_X4_join_113 rfl 0 rfl ?_
              refine g_iconst hF (v := 1) d_X4_join_114 (by decide) ?_
              refine g_put (v := 1) hF 5 obC_10 (by decide) m_605 rfl rfl rfl d_X4_join_115 ?_
              have kp : Keep [(10, 2), (10, 3), (10, 4), (10, 5), (10, 7), (10, 11)] [57, 58, 59] σ0 (upC σ 10 5 1) := keep_f kp (by decide)
              refine g_iload_n hF d_X4_join_118 rfl 2 rfl ?_
              refine g_ineg hF d_X4_join_119 ?_
              refine g_any (fun v5 => ?_)
              have j6 : Inv (upC σ 10 5 1) := ⟨inv.1, inv.2.1, inv.2.2.1, inv.2.2.2.1, inv.2.2.2.2.1, inv.2.2.2.2.2.1, inv.2.2.2.2.2.2.1, inv.2.2.2.2.2.2.2.1, inv.2.2.2.2.2.2.2.2.1, inv.2.2.2.2.2.2.2.2.2.1, inv.2.2.2.2.2.2.2.2.2.2.1, inv.2.2.2.2.2.2.2.2.2.2.2.1, inv.2.2.2.2.2.2.2.2.2.2.2.2.1, inv.2.2.2.2.2.2.2.2.2.2.2.2.2.1, inv.2.2.2.2.2.2.2.2.2.2.2.2.2.2.1, inv.2.2.2.2.2.2.2.2.2.2.2.2.2.2.2.1, inv.2.2.2.2.2.2.2.2.2.2.2.2.2.2.2.2.1, inv.2.2.2.2.2.2.2.2.2.2.2.2.2.2.2.2.2.1, inv.2.2.2.2.2.2.2.2.2.2.2.2.2.2.2.2.2.2.1, inv.2.2.2.2.2.2.2.2.2.2.2.2.2.2.2.2.2.2.2⟩
              exact g_iret hF rfl d_X4_join_120 ⟨rfl, rfl, v5, rfl, ⟨j6, kp⟩⟩
            · -- not taken at 89
              refine g_aload_n hF d_X4_join_92 rfl 0 rfl ?_
              refine g_callV (As := []) (rest := []) hF (c_X4_settle a g r σ inv) (Nat.le_of_ble_eq_true rfl) mV_X4_settle m_1597 (recv_ob obC_10) rfl rfl (Nat.le_of_ble_eq_true rfl) d_X4_join_93 (k_v (fun σ7 ⟨iσ7, ik7⟩ => ?_)) (fun _ _ _ h => h.elim)
              have kp : Keep [(10, 2), (10, 3), (10, 4), (10, 5), (10, 7), (10, 11)] [57, 58, 59] σ0 σ7 := keep_c kp ik7 (by decide) (by decide)
              refine g_aload_n hF d_X4_join_96 rfl 0 rfl ?_
              refine g_aload_n hF d_X4_join_97 rfl 0 rfl ?_
              refine g_get (v := .ref (r 59)) hF 10 obC_10 (by decide) m_611 rfl d_X4_join_98 ?_
              refine g_iload_n hF d_X4_join_101 rfl 1 rfl ?_
              refine g_callSN (As := [.ref (r 59), .int x1]) (rest := [.ref (r 10)]) hF (c_at a g r σ7 arC_59 (by decide) x1) (Nat.le_of_ble_eq_true rfl) mS_X12_at nm_1552 rfl rfl (Nat.le_of_ble_eq_true rfl) d_X4_join_102 (k_rop (fun r8 hr8 => ?_))
              refine g_put (v := r8) hF 11 obC_10 (by decide) m_613 rfl rfl rfl d_X4_join_105 ?_
              have kp : Keep [(10, 2), (10, 3), (10, 4), (10, 5), (10, 7), (10, 11)] [57, 58, 59] σ0 (upC σ7 10 11 r8) := keep_f kp (by decide)
              refine g_aload_n hF d_X4_join_108 rfl 0 rfl ?_
              refine g_iconst hF (v := 1) d_X4_join_109 (by decide) ?_
              refine g_putZ (v := 1) hF 2 obC_10 (by decide) m_599 rfl rfl rfl (Or.inr rfl) d_X4_join_110 ?_
              have kp : Keep [(10, 2), (10, 3), (10, 4), (10, 5), (10, 7), (10, 11)] [57, 58, 59] σ0 (upC (upC σ7 10 11 r8) 10 2 1) := keep_f kp (by decide)
              refine g_aload_n hF d_X4_join_113 rfl 0 rfl ?_
              refine g_iconst hF (v := 1) d_X4_join_114 (by decide) ?_
              refine g_put (v := 1) hF 5 obC_10 (by decide) m_605 rfl rfl rfl d_X4_join_115 ?_
              have kp : Keep [(10, 2), (10, 3), (10, 4), (10, 5), (10, 7), (10, 11)] [57, 58, 59] σ0 (upC (upC (upC σ7 10 11 r8) 10 2 1) 10 5 1) := keep_f kp (by decide)
              refine g_iload_n hF d_X4_join_118 rfl 2 rfl ?_
              refine g_ineg hF d_X4_join_119 ?_
              refine g_any (fun v9 => ?_)
              have j10 : Inv (upC (upC (upC σ7 10 11 r8) 10 2 1) 10 5 1) := ⟨iσ7.1, iσ7.2.1, iσ7.2.2.1, iσ7.2.2.2.1, iσ7.2.2.2.2.1, iσ7.2.2.2.2.2.1, iσ7.2.2.2.2.2.2.1, iσ7.2.2.2.2.2.2.2.1, iσ7.2.2.2.2.2.2.2.2.1, iσ7.2.2.2.2.2.2.2.2.2.1, iσ7.2.2.2.2.2.2.2.2.2.2.1, iσ7.2.2.2.2.2.2.2.2.2.2.2.1, iσ7.2.2.2.2.2.2.2.2.2.2.2.2.1, iσ7.2.2.2.2.2.2.2.2.2.2.2.2.2.1, iσ7.2.2.2.2.2.2.2.2.2.2.2.2.2.2.1, iσ7.2.2.2.2.2.2.2.2.2.2.2.2.2.2.2.1, iσ7.2.2.2.2.2.2.2.2.2.2.2.2.2.2.2.2.1, iσ7.2.2.2.2.2.2.2.2.2.2.2.2.2.2.2.2.2.1, iσ7.2.2.2.2.2.2.2.2.2.2.2.2.2.2.2.2.2.2.1, iσ7.2.2.2.2.2.2.2.2.2.2.2.2.2.2.2.2.2.2.2⟩
              exact g_iret hF rfl d_X4_join_120 ⟨rfl, rfl, v9, rfl, ⟨j10, kp⟩⟩
          · -- not taken at 72
            refine g_aload_n hF d_X4_join_75 rfl 0 rfl ?_
            refine g_callV (As := []) (rest := []) hF (c_X4_dataCells a g r σ inv) (Nat.le_of_ble_eq_true rfl) mV_X4_dataCells m_1593 (recv_ob obC_10) rfl rfl (Nat.le_of_ble_eq_true rfl) d_X4_join_76 (k_ro (fun r11 => ?_)) (fun _ _ _ h => h.elim)
            refine g_sipush hF (v := 16000) d_X4_join_79 (by decide) ?_
            refine g_icmp_le (yv := 16000) hF 88 d_X4_join_82 (by decide) rfl (by decide) (fun c12_82 => ?_) (fun c12_82 => ?_)
            · -- taken at 82
              refine g_iload_n hF d_X4_join_88 rfl 2 rfl ?_
              refine g_if_ne hF 113 d_X4_join_89 (by decide) rfl (fun c13_89 => ?_) (fun c13_89 => ?_)
              · -- taken at 89
                refine g_aload_n hF d_X4_join_113 rfl 0 rfl ?_
                refine g_iconst hF (v := 1) d_X4_join_114 (by decide) ?_
                refine g_put (v := 1) hF 5 obC_10 (by decide) m_605 rfl rfl rfl d_X4_join_115 ?_
                have kp : Keep [(10, 2), (10, 3), (10, 4), (10, 5), (10, 7), (10, 11)] [57, 58, 59] σ0 (upC σ 10 5 1) := keep_f kp (by decide)
                refine g_iload_n hF d_X4_join_118 rfl 2 rfl ?_
                refine g_ineg hF d_X4_join_119 ?_
                refine g_any (fun v14 => ?_)
                have j15 : Inv (upC σ 10 5 1) := ⟨inv.1, inv.2.1, inv.2.2.1, inv.2.2.2.1, inv.2.2.2.2.1, inv.2.2.2.2.2.1, inv.2.2.2.2.2.2.1, inv.2.2.2.2.2.2.2.1, inv.2.2.2.2.2.2.2.2.1, inv.2.2.2.2.2.2.2.2.2.1, inv.2.2.2.2.2.2.2.2.2.2.1, inv.2.2.2.2.2.2.2.2.2.2.2.1, inv.2.2.2.2.2.2.2.2.2.2.2.2.1, inv.2.2.2.2.2.2.2.2.2.2.2.2.2.1, inv.2.2.2.2.2.2.2.2.2.2.2.2.2.2.1, inv.2.2.2.2.2.2.2.2.2.2.2.2.2.2.2.1, inv.2.2.2.2.2.2.2.2.2.2.2.2.2.2.2.2.1, inv.2.2.2.2.2.2.2.2.2.2.2.2.2.2.2.2.2.1, inv.2.2.2.2.2.2.2.2.2.2.2.2.2.2.2.2.2.2.1, inv.2.2.2.2.2.2.2.2.2.2.2.2.2.2.2.2.2.2.2⟩
                exact g_iret hF rfl d_X4_join_120 ⟨rfl, rfl, v14, rfl, ⟨j15, kp⟩⟩
              · -- not taken at 89
                refine g_aload_n hF d_X4_join_92 rfl 0 rfl ?_
                refine g_callV (As := []) (rest := []) hF (c_X4_settle a g r σ inv) (Nat.le_of_ble_eq_true rfl) mV_X4_settle m_1597 (recv_ob obC_10) rfl rfl (Nat.le_of_ble_eq_true rfl) d_X4_join_93 (k_v (fun σ16 ⟨iσ16, ik16⟩ => ?_)) (fun _ _ _ h => h.elim)
                have kp : Keep [(10, 2), (10, 3), (10, 4), (10, 5), (10, 7), (10, 11)] [57, 58, 59] σ0 σ16 := keep_c kp ik16 (by decide) (by decide)
                refine g_aload_n hF d_X4_join_96 rfl 0 rfl ?_
                refine g_aload_n hF d_X4_join_97 rfl 0 rfl ?_
                refine g_get (v := .ref (r 59)) hF 10 obC_10 (by decide) m_611 rfl d_X4_join_98 ?_
                refine g_iload_n hF d_X4_join_101 rfl 1 rfl ?_
                refine g_callSN (As := [.ref (r 59), .int x1]) (rest := [.ref (r 10)]) hF (c_at a g r σ16 arC_59 (by decide) x1) (Nat.le_of_ble_eq_true rfl) mS_X12_at nm_1552 rfl rfl (Nat.le_of_ble_eq_true rfl) d_X4_join_102 (k_rop (fun r17 hr17 => ?_))
                refine g_put (v := r17) hF 11 obC_10 (by decide) m_613 rfl rfl rfl d_X4_join_105 ?_
                have kp : Keep [(10, 2), (10, 3), (10, 4), (10, 5), (10, 7), (10, 11)] [57, 58, 59] σ0 (upC σ16 10 11 r17) := keep_f kp (by decide)
                refine g_aload_n hF d_X4_join_108 rfl 0 rfl ?_
                refine g_iconst hF (v := 1) d_X4_join_109 (by decide) ?_
                refine g_putZ (v := 1) hF 2 obC_10 (by decide) m_599 rfl rfl rfl (Or.inr rfl) d_X4_join_110 ?_
                have kp : Keep [(10, 2), (10, 3), (10, 4), (10, 5), (10, 7), (10, 11)] [57, 58, 59] σ0 (upC (upC σ16 10 11 r17) 10 2 1) := keep_f kp (by decide)
                refine g_aload_n hF d_X4_join_113 rfl 0 rfl ?_
                refine g_iconst hF (v := 1) d_X4_join_114 (by decide) ?_
                refine g_put (v := 1) hF 5 obC_10 (by decide) m_605 rfl rfl rfl d_X4_join_115 ?_
                have kp : Keep [(10, 2), (10, 3), (10, 4), (10, 5), (10, 7), (10, 11)] [57, 58, 59] σ0 (upC (upC (upC σ16 10 11 r17) 10 2 1) 10 5 1) := keep_f kp (by decide)
                refine g_iload_n hF d_X4_join_118 rfl 2 rfl ?_
                refine g_ineg hF d_X4_join_119 ?_
                refine g_any (fun v18 => ?_)
                have j19 : Inv (upC (upC (upC σ16 10 11 r17) 10 2 1) 10 5 1) := ⟨iσ16.1, iσ16.2.1, iσ16.2.2.1, iσ16.2.2.2.1, iσ16.2.2.2.2.1, iσ16.2.2.2.2.2.1, iσ16.2.2.2.2.2.2.1, iσ16.2.2.2.2.2.2.2.1, iσ16.2.2.2.2.2.2.2.2.1, iσ16.2.2.2.2.2.2.2.2.2.1, iσ16.2.2.2.2.2.2.2.2.2.2.1, iσ16.2.2.2.2.2.2.2.2.2.2.2.1, iσ16.2.2.2.2.2.2.2.2.2.2.2.2.1, iσ16.2.2.2.2.2.2.2.2.2.2.2.2.2.1, iσ16.2.2.2.2.2.2.2.2.2.2.2.2.2.2.1, iσ16.2.2.2.2.2.2.2.2.2.2.2.2.2.2.2.1, iσ16.2.2.2.2.2.2.2.2.2.2.2.2.2.2.2.2.1, iσ16.2.2.2.2.2.2.2.2.2.2.2.2.2.2.2.2.2.1, iσ16.2.2.2.2.2.2.2.2.2.2.2.2.2.2.2.2.2.2.1, iσ16.2.2.2.2.2.2.2.2.2.2.2.2.2.2.2.2.2.2.2⟩
                exact g_iret hF rfl d_X4_join_120 ⟨rfl, rfl, v18, rfl, ⟨j19, kp⟩⟩
            · -- not taken at 82
              refine g_bipush hF (v := 35) d_X4_join_85 (by decide) ?_
              refine g_istore_n hF [(2, .int 35), (0, .ref (r 10)), (1, .int x1), (3, .int x3)] d_X4_join_87 rfl hnn (by decide) rfl ?_
              refine g_iload_n hF d_X4_join_88 rfl 0 rfl ?_
              refine g_if_ne (xv := 35) hF 113 d_X4_join_89 (by decide) (by decide) (fun _ => ?_) (fun c_89 => absurd c_89 (by decide))
              refine g_aload_n hF d_X4_join_113 rfl 1 rfl ?_
              refine g_iconst hF (v := 1) d_X4_join_114 (by decide) ?_
              refine g_put (v := 1) hF 5 obC_10 (by decide) m_605 rfl rfl rfl d_X4_join_115 ?_
              have kp : Keep [(10, 2), (10, 3), (10, 4), (10, 5), (10, 7), (10, 11)] [57, 58, 59] σ0 (upC σ 10 5 1) := keep_f kp (by decide)
              refine g_iload_n hF d_X4_join_118 rfl 0 rfl ?_
              refine g_ineg hF d_X4_join_119 ?_
              refine g_any (fun v20 => ?_)
              have j21 : Inv (upC σ 10 5 1) := ⟨inv.1, inv.2.1, inv.2.2.1, inv.2.2.2.1, inv.2.2.2.2.1, inv.2.2.2.2.2.1, inv.2.2.2.2.2.2.1, inv.2.2.2.2.2.2.2.1, inv.2.2.2.2.2.2.2.2.1, inv.2.2.2.2.2.2.2.2.2.1, inv.2.2.2.2.2.2.2.2.2.2.1, inv.2.2.2.2.2.2.2.2.2.2.2.1, inv.2.2.2.2.2.2.2.2.2.2.2.2.1, inv.2.2.2.2.2.2.2.2.2.2.2.2.2.1, inv.2.2.2.2.2.2.2.2.2.2.2.2.2.2.1, inv.2.2.2.2.2.2.2.2.2.2.2.2.2.2.2.1, inv.2.2.2.2.2.2.2.2.2.2.2.2.2.2.2.2.1, inv.2.2.2.2.2.2.2.2.2.2.2.2.2.2.2.2.2.1, inv.2.2.2.2.2.2.2.2.2.2.2.2.2.2.2.2.2.2.1, inv.2.2.2.2.2.2.2.2.2.2.2.2.2.2.2.2.2.2.2⟩
              exact g_iret hF rfl d_X4_join_120 ⟨rfl, rfl, v20, rfl, ⟨j21, kp⟩⟩
        · -- not taken at 57
          refine g_aload_n hF d_X4_join_60 rfl 0 rfl ?_
          refine g_iload_n hF d_X4_join_61 rfl 1 rfl ?_
          refine g_callV (As := [.int x1]) (rest := []) hF (c_X4_isMain a g r σ x1 inv) (Nat.le_of_ble_eq_true rfl) mV_X4_isMain m_1589 (recv_ob obC_10) rfl rfl (Nat.le_of_ble_eq_true rfl) d_X4_join_62 (k_roz (fun r22 hz22 => ?_)) (fun _ _ _ h => h.elim)
          refine g_if_ne hF 71 d_X4_join_65 (by decide) rfl (fun c23_65 => ?_) (fun c23_65 => ?_)
          · -- taken at 65
            refine g_iload_n hF d_X4_join_71 rfl 2 rfl ?_
            refine g_if_ne hF 88 d_X4_join_72 (by decide) rfl (fun c24_72 => ?_) (fun c24_72 => ?_)
            · -- taken at 72
              refine g_iload_n hF d_X4_join_88 rfl 2 rfl ?_
              refine g_if_ne hF 113 d_X4_join_89 (by decide) rfl (fun c25_89 => ?_) (fun c25_89 => ?_)
              · -- taken at 89
                refine g_aload_n hF d_X4_join_113 rfl 0 rfl ?_
                refine g_iconst hF (v := 1) d_X4_join_114 (by decide) ?_
                refine g_put (v := 1) hF 5 obC_10 (by decide) m_605 rfl rfl rfl d_X4_join_115 ?_
                have kp : Keep [(10, 2), (10, 3), (10, 4), (10, 5), (10, 7), (10, 11)] [57, 58, 59] σ0 (upC σ 10 5 1) := keep_f kp (by decide)
                refine g_iload_n hF d_X4_join_118 rfl 2 rfl ?_
                refine g_ineg hF d_X4_join_119 ?_
                refine g_any (fun v26 => ?_)
                have j27 : Inv (upC σ 10 5 1) := ⟨inv.1, inv.2.1, inv.2.2.1, inv.2.2.2.1, inv.2.2.2.2.1, inv.2.2.2.2.2.1, inv.2.2.2.2.2.2.1, inv.2.2.2.2.2.2.2.1, inv.2.2.2.2.2.2.2.2.1, inv.2.2.2.2.2.2.2.2.2.1, inv.2.2.2.2.2.2.2.2.2.2.1, inv.2.2.2.2.2.2.2.2.2.2.2.1, inv.2.2.2.2.2.2.2.2.2.2.2.2.1, inv.2.2.2.2.2.2.2.2.2.2.2.2.2.1, inv.2.2.2.2.2.2.2.2.2.2.2.2.2.2.1, inv.2.2.2.2.2.2.2.2.2.2.2.2.2.2.2.1, inv.2.2.2.2.2.2.2.2.2.2.2.2.2.2.2.2.1, inv.2.2.2.2.2.2.2.2.2.2.2.2.2.2.2.2.2.1, inv.2.2.2.2.2.2.2.2.2.2.2.2.2.2.2.2.2.2.1, inv.2.2.2.2.2.2.2.2.2.2.2.2.2.2.2.2.2.2.2⟩
                exact g_iret hF rfl d_X4_join_120 ⟨rfl, rfl, v26, rfl, ⟨j27, kp⟩⟩
              · -- not taken at 89
                refine g_aload_n hF d_X4_join_92 rfl 0 rfl ?_
                refine g_callV (As := []) (rest := []) hF (c_X4_settle a g r σ inv) (Nat.le_of_ble_eq_true rfl) mV_X4_settle m_1597 (recv_ob obC_10) rfl rfl (Nat.le_of_ble_eq_true rfl) d_X4_join_93 (k_v (fun σ28 ⟨iσ28, ik28⟩ => ?_)) (fun _ _ _ h => h.elim)
                have kp : Keep [(10, 2), (10, 3), (10, 4), (10, 5), (10, 7), (10, 11)] [57, 58, 59] σ0 σ28 := keep_c kp ik28 (by decide) (by decide)
                refine g_aload_n hF d_X4_join_96 rfl 0 rfl ?_
                refine g_aload_n hF d_X4_join_97 rfl 0 rfl ?_
                refine g_get (v := .ref (r 59)) hF 10 obC_10 (by decide) m_611 rfl d_X4_join_98 ?_
                refine g_iload_n hF d_X4_join_101 rfl 1 rfl ?_
                refine g_callSN (As := [.ref (r 59), .int x1]) (rest := [.ref (r 10)]) hF (c_at a g r σ28 arC_59 (by decide) x1) (Nat.le_of_ble_eq_true rfl) mS_X12_at nm_1552 rfl rfl (Nat.le_of_ble_eq_true rfl) d_X4_join_102 (k_rop (fun r29 hr29 => ?_))
                refine g_put (v := r29) hF 11 obC_10 (by decide) m_613 rfl rfl rfl d_X4_join_105 ?_
                have kp : Keep [(10, 2), (10, 3), (10, 4), (10, 5), (10, 7), (10, 11)] [57, 58, 59] σ0 (upC σ28 10 11 r29) := keep_f kp (by decide)
                refine g_aload_n hF d_X4_join_108 rfl 0 rfl ?_
                refine g_iconst hF (v := 1) d_X4_join_109 (by decide) ?_
                refine g_putZ (v := 1) hF 2 obC_10 (by decide) m_599 rfl rfl rfl (Or.inr rfl) d_X4_join_110 ?_
                have kp : Keep [(10, 2), (10, 3), (10, 4), (10, 5), (10, 7), (10, 11)] [57, 58, 59] σ0 (upC (upC σ28 10 11 r29) 10 2 1) := keep_f kp (by decide)
                refine g_aload_n hF d_X4_join_113 rfl 0 rfl ?_
                refine g_iconst hF (v := 1) d_X4_join_114 (by decide) ?_
                refine g_put (v := 1) hF 5 obC_10 (by decide) m_605 rfl rfl rfl d_X4_join_115 ?_
                have kp : Keep [(10, 2), (10, 3), (10, 4), (10, 5), (10, 7), (10, 11)] [57, 58, 59] σ0 (upC (upC (upC σ28 10 11 r29) 10 2 1) 10 5 1) := keep_f kp (by decide)
                refine g_iload_n hF d_X4_join_118 rfl 2 rfl ?_
                refine g_ineg hF d_X4_join_119 ?_
                refine g_any (fun v30 => ?_)
                have j31 : Inv (upC (upC (upC σ28 10 11 r29) 10 2 1) 10 5 1) := ⟨iσ28.1, iσ28.2.1, iσ28.2.2.1, iσ28.2.2.2.1, iσ28.2.2.2.2.1, iσ28.2.2.2.2.2.1, iσ28.2.2.2.2.2.2.1, iσ28.2.2.2.2.2.2.2.1, iσ28.2.2.2.2.2.2.2.2.1, iσ28.2.2.2.2.2.2.2.2.2.1, iσ28.2.2.2.2.2.2.2.2.2.2.1, iσ28.2.2.2.2.2.2.2.2.2.2.2.1, iσ28.2.2.2.2.2.2.2.2.2.2.2.2.1, iσ28.2.2.2.2.2.2.2.2.2.2.2.2.2.1, iσ28.2.2.2.2.2.2.2.2.2.2.2.2.2.2.1, iσ28.2.2.2.2.2.2.2.2.2.2.2.2.2.2.2.1, iσ28.2.2.2.2.2.2.2.2.2.2.2.2.2.2.2.2.1, iσ28.2.2.2.2.2.2.2.2.2.2.2.2.2.2.2.2.2.1, iσ28.2.2.2.2.2.2.2.2.2.2.2.2.2.2.2.2.2.2.1, iσ28.2.2.2.2.2.2.2.2.2.2.2.2.2.2.2.2.2.2.2⟩
                exact g_iret hF rfl d_X4_join_120 ⟨rfl, rfl, v30, rfl, ⟨j31, kp⟩⟩
            · -- not taken at 72
              refine g_aload_n hF d_X4_join_75 rfl 0 rfl ?_
              refine g_callV (As := []) (rest := []) hF (c_X4_dataCells a g r σ inv) (Nat.le_of_ble_eq_true rfl) mV_X4_dataCells m_1593 (recv_ob obC_10) rfl rfl (Nat.le_of_ble_eq_true rfl) d_X4_join_76 (k_ro (fun r32 => ?_)) (fun _ _ _ h => h.elim)
              refine g_sipush hF (v := 16000) d_X4_join_79 (by decide) ?_
              refine g_icmp_le (yv := 16000) hF 88 d_X4_join_82 (by decide) rfl (by decide) (fun c33_82 => ?_) (fun c33_82 => ?_)
              · -- taken at 82
                refine g_iload_n hF d_X4_join_88 rfl 2 rfl ?_
                refine g_if_ne hF 113 d_X4_join_89 (by decide) rfl (fun c34_89 => ?_) (fun c34_89 => ?_)
                · -- taken at 89
                  refine g_aload_n hF d_X4_join_113 rfl 0 rfl ?_
                  refine g_iconst hF (v := 1) d_X4_join_114 (by decide) ?_
                  refine g_put (v := 1) hF 5 obC_10 (by decide) m_605 rfl rfl rfl d_X4_join_115 ?_
                  have kp : Keep [(10, 2), (10, 3), (10, 4), (10, 5), (10, 7), (10, 11)] [57, 58, 59] σ0 (upC σ 10 5 1) := keep_f kp (by decide)
                  refine g_iload_n hF d_X4_join_118 rfl 2 rfl ?_
                  refine g_ineg hF d_X4_join_119 ?_
                  refine g_any (fun v35 => ?_)
                  have j36 : Inv (upC σ 10 5 1) := ⟨inv.1, inv.2.1, inv.2.2.1, inv.2.2.2.1, inv.2.2.2.2.1, inv.2.2.2.2.2.1, inv.2.2.2.2.2.2.1, inv.2.2.2.2.2.2.2.1, inv.2.2.2.2.2.2.2.2.1, inv.2.2.2.2.2.2.2.2.2.1, inv.2.2.2.2.2.2.2.2.2.2.1, inv.2.2.2.2.2.2.2.2.2.2.2.1, inv.2.2.2.2.2.2.2.2.2.2.2.2.1, inv.2.2.2.2.2.2.2.2.2.2.2.2.2.1, inv.2.2.2.2.2.2.2.2.2.2.2.2.2.2.1, inv.2.2.2.2.2.2.2.2.2.2.2.2.2.2.2.1, inv.2.2.2.2.2.2.2.2.2.2.2.2.2.2.2.2.1, inv.2.2.2.2.2.2.2.2.2.2.2.2.2.2.2.2.2.1, inv.2.2.2.2.2.2.2.2.2.2.2.2.2.2.2.2.2.2.1, inv.2.2.2.2.2.2.2.2.2.2.2.2.2.2.2.2.2.2.2⟩
                  exact g_iret hF rfl d_X4_join_120 ⟨rfl, rfl, v35, rfl, ⟨j36, kp⟩⟩
                · -- not taken at 89
                  refine g_aload_n hF d_X4_join_92 rfl 0 rfl ?_
                  refine g_callV (As := []) (rest := []) hF (c_X4_settle a g r σ inv) (Nat.le_of_ble_eq_true rfl) mV_X4_settle m_1597 (recv_ob obC_10) rfl rfl (Nat.le_of_ble_eq_true rfl) d_X4_join_93 (k_v (fun σ37 ⟨iσ37, ik37⟩ => ?_)) (fun _ _ _ h => h.elim)
                  have kp : Keep [(10, 2), (10, 3), (10, 4), (10, 5), (10, 7), (10, 11)] [57, 58, 59] σ0 σ37 := keep_c kp ik37 (by decide) (by decide)
                  refine g_aload_n hF d_X4_join_96 rfl 0 rfl ?_
                  refine g_aload_n hF d_X4_join_97 rfl 0 rfl ?_
                  refine g_get (v := .ref (r 59)) hF 10 obC_10 (by decide) m_611 rfl d_X4_join_98 ?_
                  refine g_iload_n hF d_X4_join_101 rfl 1 rfl ?_
                  refine g_callSN (As := [.ref (r 59), .int x1]) (rest := [.ref (r 10)]) hF (c_at a g r σ37 arC_59 (by decide) x1) (Nat.le_of_ble_eq_true rfl) mS_X12_at nm_1552 rfl rfl (Nat.le_of_ble_eq_true rfl) d_X4_join_102 (k_rop (fun r38 hr38 => ?_))
                  refine g_put (v := r38) hF 11 obC_10 (by decide) m_613 rfl rfl rfl d_X4_join_105 ?_
                  have kp : Keep [(10, 2), (10, 3), (10, 4), (10, 5), (10, 7), (10, 11)] [57, 58, 59] σ0 (upC σ37 10 11 r38) := keep_f kp (by decide)
                  refine g_aload_n hF d_X4_join_108 rfl 0 rfl ?_
                  refine g_iconst hF (v := 1) d_X4_join_109 (by decide) ?_
                  refine g_putZ (v := 1) hF 2 obC_10 (by decide) m_599 rfl rfl rfl (Or.inr rfl) d_X4_join_110 ?_
                  have kp : Keep [(10, 2), (10, 3), (10, 4), (10, 5), (10, 7), (10, 11)] [57, 58, 59] σ0 (upC (upC σ37 10 11 r38) 10 2 1) := keep_f kp (by decide)
                  refine g_aload_n hF d_X4_join_113 rfl 0 rfl ?_
                  refine g_iconst hF (v := 1) d_X4_join_114 (by decide) ?_
                  refine g_put (v := 1) hF 5 obC_10 (by decide) m_605 rfl rfl rfl d_X4_join_115 ?_
                  have kp : Keep [(10, 2), (10, 3), (10, 4), (10, 5), (10, 7), (10, 11)] [57, 58, 59] σ0 (upC (upC (upC σ37 10 11 r38) 10 2 1) 10 5 1) := keep_f kp (by decide)
                  refine g_iload_n hF d_X4_join_118 rfl 2 rfl ?_
                  refine g_ineg hF d_X4_join_119 ?_
                  refine g_any (fun v39 => ?_)
                  have j40 : Inv (upC (upC (upC σ37 10 11 r38) 10 2 1) 10 5 1) := ⟨iσ37.1, iσ37.2.1, iσ37.2.2.1, iσ37.2.2.2.1, iσ37.2.2.2.2.1, iσ37.2.2.2.2.2.1, iσ37.2.2.2.2.2.2.1, iσ37.2.2.2.2.2.2.2.1, iσ37.2.2.2.2.2.2.2.2.1, iσ37.2.2.2.2.2.2.2.2.2.1, iσ37.2.2.2.2.2.2.2.2.2.2.1, iσ37.2.2.2.2.2.2.2.2.2.2.2.1, iσ37.2.2.2.2.2.2.2.2.2.2.2.2.1, iσ37.2.2.2.2.2.2.2.2.2.2.2.2.2.1, iσ37.2.2.2.2.2.2.2.2.2.2.2.2.2.2.1, iσ37.2.2.2.2.2.2.2.2.2.2.2.2.2.2.2.1, iσ37.2.2.2.2.2.2.2.2.2.2.2.2.2.2.2.2.1, iσ37.2.2.2.2.2.2.2.2.2.2.2.2.2.2.2.2.2.1, iσ37.2.2.2.2.2.2.2.2.2.2.2.2.2.2.2.2.2.2.1, iσ37.2.2.2.2.2.2.2.2.2.2.2.2.2.2.2.2.2.2.2⟩
                  exact g_iret hF rfl d_X4_join_120 ⟨rfl, rfl, v39, rfl, ⟨j40, kp⟩⟩
              · -- not taken at 82
                refine g_bipush hF (v := 35) d_X4_join_85 (by decide) ?_
                refine g_istore_n hF [(2, .int 35), (0, .ref (r 10)), (1, .int x1), (3, .int x3)] d_X4_join_87 rfl hnn (by decide) rfl ?_
                refine g_iload_n hF d_X4_join_88 rfl 0 rfl ?_
                refine g_if_ne (xv := 35) hF 113 d_X4_join_89 (by decide) (by decide) (fun _ => ?_) (fun c_89 => absurd c_89 (by decide))
                refine g_aload_n hF d_X4_join_113 rfl 1 rfl ?_
                refine g_iconst hF (v := 1) d_X4_join_114 (by decide) ?_
                refine g_put (v := 1) hF 5 obC_10 (by decide) m_605 rfl rfl rfl d_X4_join_115 ?_
                have kp : Keep [(10, 2), (10, 3), (10, 4), (10, 5), (10, 7), (10, 11)] [57, 58, 59] σ0 (upC σ 10 5 1) := keep_f kp (by decide)
                refine g_iload_n hF d_X4_join_118 rfl 0 rfl ?_
                refine g_ineg hF d_X4_join_119 ?_
                refine g_any (fun v41 => ?_)
                have j42 : Inv (upC σ 10 5 1) := ⟨inv.1, inv.2.1, inv.2.2.1, inv.2.2.2.1, inv.2.2.2.2.1, inv.2.2.2.2.2.1, inv.2.2.2.2.2.2.1, inv.2.2.2.2.2.2.2.1, inv.2.2.2.2.2.2.2.2.1, inv.2.2.2.2.2.2.2.2.2.1, inv.2.2.2.2.2.2.2.2.2.2.1, inv.2.2.2.2.2.2.2.2.2.2.2.1, inv.2.2.2.2.2.2.2.2.2.2.2.2.1, inv.2.2.2.2.2.2.2.2.2.2.2.2.2.1, inv.2.2.2.2.2.2.2.2.2.2.2.2.2.2.1, inv.2.2.2.2.2.2.2.2.2.2.2.2.2.2.2.1, inv.2.2.2.2.2.2.2.2.2.2.2.2.2.2.2.2.1, inv.2.2.2.2.2.2.2.2.2.2.2.2.2.2.2.2.2.1, inv.2.2.2.2.2.2.2.2.2.2.2.2.2.2.2.2.2.2.1, inv.2.2.2.2.2.2.2.2.2.2.2.2.2.2.2.2.2.2.2⟩
                exact g_iret hF rfl d_X4_join_120 ⟨rfl, rfl, v41, rfl, ⟨j42, kp⟩⟩
          · -- not taken at 65
            refine g_bipush hF (v := 34) d_X4_join_68 (by decide) ?_
            refine g_istore_n hF [(2, .int 34), (0, .ref (r 10)), (1, .int x1), (3, .int x3)] d_X4_join_70 rfl hnn (by decide) rfl ?_
            refine g_iload_n hF d_X4_join_71 rfl 0 rfl ?_
            refine g_if_ne (xv := 34) hF 88 d_X4_join_72 (by decide) (by decide) (fun _ => ?_) (fun c_72 => absurd c_72 (by decide))
            refine g_iload_n hF d_X4_join_88 rfl 0 rfl ?_
            refine g_if_ne (xv := 34) hF 113 d_X4_join_89 (by decide) (by decide) (fun _ => ?_) (fun c_89 => absurd c_89 (by decide))
            refine g_aload_n hF d_X4_join_113 rfl 1 rfl ?_
            refine g_iconst hF (v := 1) d_X4_join_114 (by decide) ?_
            refine g_put (v := 1) hF 5 obC_10 (by decide) m_605 rfl rfl rfl d_X4_join_115 ?_
            have kp : Keep [(10, 2), (10, 3), (10, 4), (10, 5), (10, 7), (10, 11)] [57, 58, 59] σ0 (upC σ 10 5 1) := keep_f kp (by decide)
            refine g_iload_n hF d_X4_join_118 rfl 0 rfl ?_
            refine g_ineg hF d_X4_join_119 ?_
            refine g_any (fun v43 => ?_)
            have j44 : Inv (upC σ 10 5 1) := ⟨inv.1, inv.2.1, inv.2.2.1, inv.2.2.2.1, inv.2.2.2.2.1, inv.2.2.2.2.2.1, inv.2.2.2.2.2.2.1, inv.2.2.2.2.2.2.2.1, inv.2.2.2.2.2.2.2.2.1, inv.2.2.2.2.2.2.2.2.2.1, inv.2.2.2.2.2.2.2.2.2.2.1, inv.2.2.2.2.2.2.2.2.2.2.2.1, inv.2.2.2.2.2.2.2.2.2.2.2.2.1, inv.2.2.2.2.2.2.2.2.2.2.2.2.2.1, inv.2.2.2.2.2.2.2.2.2.2.2.2.2.2.1, inv.2.2.2.2.2.2.2.2.2.2.2.2.2.2.2.1, inv.2.2.2.2.2.2.2.2.2.2.2.2.2.2.2.2.1, inv.2.2.2.2.2.2.2.2.2.2.2.2.2.2.2.2.2.1, inv.2.2.2.2.2.2.2.2.2.2.2.2.2.2.2.2.2.2.1, inv.2.2.2.2.2.2.2.2.2.2.2.2.2.2.2.2.2.2.2⟩
            exact g_iret hF rfl d_X4_join_120 ⟨rfl, rfl, v43, rfl, ⟨j44, kp⟩⟩
      · -- not taken at 37
        refine g_iload_n hF d_X4_join_40 rfl 2 rfl ?_
        refine g_if_ne hF 56 d_X4_join_41 (by decide) rfl (fun c45_41 => ?_) (fun c45_41 => ?_)
        · -- taken at 41
          refine g_iload_n hF d_X4_join_56 rfl 2 rfl ?_
          refine g_if_ne hF 71 d_X4_join_57 (by decide) rfl (fun c46_57 => ?_) (fun c46_57 => ?_)
          · -- taken at 57
            refine g_iload_n hF d_X4_join_71 rfl 2 rfl ?_
            refine g_if_ne hF 88 d_X4_join_72 (by decide) rfl (fun c47_72 => ?_) (fun c47_72 => ?_)
            · -- taken at 72
              refine g_iload_n hF d_X4_join_88 rfl 2 rfl ?_
              refine g_if_ne hF 113 d_X4_join_89 (by decide) rfl (fun c48_89 => ?_) (fun c48_89 => ?_)
              · -- taken at 89
                refine g_aload_n hF d_X4_join_113 rfl 0 rfl ?_
                refine g_iconst hF (v := 1) d_X4_join_114 (by decide) ?_
                refine g_put (v := 1) hF 5 obC_10 (by decide) m_605 rfl rfl rfl d_X4_join_115 ?_
                have kp : Keep [(10, 2), (10, 3), (10, 4), (10, 5), (10, 7), (10, 11)] [57, 58, 59] σ0 (upC σ 10 5 1) := keep_f kp (by decide)
                refine g_iload_n hF d_X4_join_118 rfl 2 rfl ?_
                refine g_ineg hF d_X4_join_119 ?_
                refine g_any (fun v49 => ?_)
                have j50 : Inv (upC σ 10 5 1) := ⟨inv.1, inv.2.1, inv.2.2.1, inv.2.2.2.1, inv.2.2.2.2.1, inv.2.2.2.2.2.1, inv.2.2.2.2.2.2.1, inv.2.2.2.2.2.2.2.1, inv.2.2.2.2.2.2.2.2.1, inv.2.2.2.2.2.2.2.2.2.1, inv.2.2.2.2.2.2.2.2.2.2.1, inv.2.2.2.2.2.2.2.2.2.2.2.1, inv.2.2.2.2.2.2.2.2.2.2.2.2.1, inv.2.2.2.2.2.2.2.2.2.2.2.2.2.1, inv.2.2.2.2.2.2.2.2.2.2.2.2.2.2.1, inv.2.2.2.2.2.2.2.2.2.2.2.2.2.2.2.1, inv.2.2.2.2.2.2.2.2.2.2.2.2.2.2.2.2.1, inv.2.2.2.2.2.2.2.2.2.2.2.2.2.2.2.2.2.1, inv.2.2.2.2.2.2.2.2.2.2.2.2.2.2.2.2.2.2.1, inv.2.2.2.2.2.2.2.2.2.2.2.2.2.2.2.2.2.2.2⟩
                exact g_iret hF rfl d_X4_join_120 ⟨rfl, rfl, v49, rfl, ⟨j50, kp⟩⟩
              · -- not taken at 89
                refine g_aload_n hF d_X4_join_92 rfl 0 rfl ?_
                refine g_callV (As := []) (rest := []) hF (c_X4_settle a g r σ inv) (Nat.le_of_ble_eq_true rfl) mV_X4_settle m_1597 (recv_ob obC_10) rfl rfl (Nat.le_of_ble_eq_true rfl) d_X4_join_93 (k_v (fun σ51 ⟨iσ51, ik51⟩ => ?_)) (fun _ _ _ h => h.elim)
                have kp : Keep [(10, 2), (10, 3), (10, 4), (10, 5), (10, 7), (10, 11)] [57, 58, 59] σ0 σ51 := keep_c kp ik51 (by decide) (by decide)
                refine g_aload_n hF d_X4_join_96 rfl 0 rfl ?_
                refine g_aload_n hF d_X4_join_97 rfl 0 rfl ?_
                refine g_get (v := .ref (r 59)) hF 10 obC_10 (by decide) m_611 rfl d_X4_join_98 ?_
                refine g_iload_n hF d_X4_join_101 rfl 1 rfl ?_
                refine g_callSN (As := [.ref (r 59), .int x1]) (rest := [.ref (r 10)]) hF (c_at a g r σ51 arC_59 (by decide) x1) (Nat.le_of_ble_eq_true rfl) mS_X12_at nm_1552 rfl rfl (Nat.le_of_ble_eq_true rfl) d_X4_join_102 (k_rop (fun r52 hr52 => ?_))
                refine g_put (v := r52) hF 11 obC_10 (by decide) m_613 rfl rfl rfl d_X4_join_105 ?_
                have kp : Keep [(10, 2), (10, 3), (10, 4), (10, 5), (10, 7), (10, 11)] [57, 58, 59] σ0 (upC σ51 10 11 r52) := keep_f kp (by decide)
                refine g_aload_n hF d_X4_join_108 rfl 0 rfl ?_
                refine g_iconst hF (v := 1) d_X4_join_109 (by decide) ?_
                refine g_putZ (v := 1) hF 2 obC_10 (by decide) m_599 rfl rfl rfl (Or.inr rfl) d_X4_join_110 ?_
                have kp : Keep [(10, 2), (10, 3), (10, 4), (10, 5), (10, 7), (10, 11)] [57, 58, 59] σ0 (upC (upC σ51 10 11 r52) 10 2 1) := keep_f kp (by decide)
                refine g_aload_n hF d_X4_join_113 rfl 0 rfl ?_
                refine g_iconst hF (v := 1) d_X4_join_114 (by decide) ?_
                refine g_put (v := 1) hF 5 obC_10 (by decide) m_605 rfl rfl rfl d_X4_join_115 ?_
                have kp : Keep [(10, 2), (10, 3), (10, 4), (10, 5), (10, 7), (10, 11)] [57, 58, 59] σ0 (upC (upC (upC σ51 10 11 r52) 10 2 1) 10 5 1) := keep_f kp (by decide)
                refine g_iload_n hF d_X4_join_118 rfl 2 rfl ?_
                refine g_ineg hF d_X4_join_119 ?_
                refine g_any (fun v53 => ?_)
                have j54 : Inv (upC (upC (upC σ51 10 11 r52) 10 2 1) 10 5 1) := ⟨iσ51.1, iσ51.2.1, iσ51.2.2.1, iσ51.2.2.2.1, iσ51.2.2.2.2.1, iσ51.2.2.2.2.2.1, iσ51.2.2.2.2.2.2.1, iσ51.2.2.2.2.2.2.2.1, iσ51.2.2.2.2.2.2.2.2.1, iσ51.2.2.2.2.2.2.2.2.2.1, iσ51.2.2.2.2.2.2.2.2.2.2.1, iσ51.2.2.2.2.2.2.2.2.2.2.2.1, iσ51.2.2.2.2.2.2.2.2.2.2.2.2.1, iσ51.2.2.2.2.2.2.2.2.2.2.2.2.2.1, iσ51.2.2.2.2.2.2.2.2.2.2.2.2.2.2.1, iσ51.2.2.2.2.2.2.2.2.2.2.2.2.2.2.2.1, iσ51.2.2.2.2.2.2.2.2.2.2.2.2.2.2.2.2.1, iσ51.2.2.2.2.2.2.2.2.2.2.2.2.2.2.2.2.2.1, iσ51.2.2.2.2.2.2.2.2.2.2.2.2.2.2.2.2.2.2.1, iσ51.2.2.2.2.2.2.2.2.2.2.2.2.2.2.2.2.2.2.2⟩
                exact g_iret hF rfl d_X4_join_120 ⟨rfl, rfl, v53, rfl, ⟨j54, kp⟩⟩
            · -- not taken at 72
              refine g_aload_n hF d_X4_join_75 rfl 0 rfl ?_
              refine g_callV (As := []) (rest := []) hF (c_X4_dataCells a g r σ inv) (Nat.le_of_ble_eq_true rfl) mV_X4_dataCells m_1593 (recv_ob obC_10) rfl rfl (Nat.le_of_ble_eq_true rfl) d_X4_join_76 (k_ro (fun r55 => ?_)) (fun _ _ _ h => h.elim)
              refine g_sipush hF (v := 16000) d_X4_join_79 (by decide) ?_
              refine g_icmp_le (yv := 16000) hF 88 d_X4_join_82 (by decide) rfl (by decide) (fun c56_82 => ?_) (fun c56_82 => ?_)
              · -- taken at 82
                refine g_iload_n hF d_X4_join_88 rfl 2 rfl ?_
                refine g_if_ne hF 113 d_X4_join_89 (by decide) rfl (fun c57_89 => ?_) (fun c57_89 => ?_)
                · -- taken at 89
                  refine g_aload_n hF d_X4_join_113 rfl 0 rfl ?_
                  refine g_iconst hF (v := 1) d_X4_join_114 (by decide) ?_
                  refine g_put (v := 1) hF 5 obC_10 (by decide) m_605 rfl rfl rfl d_X4_join_115 ?_
                  have kp : Keep [(10, 2), (10, 3), (10, 4), (10, 5), (10, 7), (10, 11)] [57, 58, 59] σ0 (upC σ 10 5 1) := keep_f kp (by decide)
                  refine g_iload_n hF d_X4_join_118 rfl 2 rfl ?_
                  refine g_ineg hF d_X4_join_119 ?_
                  refine g_any (fun v58 => ?_)
                  have j59 : Inv (upC σ 10 5 1) := ⟨inv.1, inv.2.1, inv.2.2.1, inv.2.2.2.1, inv.2.2.2.2.1, inv.2.2.2.2.2.1, inv.2.2.2.2.2.2.1, inv.2.2.2.2.2.2.2.1, inv.2.2.2.2.2.2.2.2.1, inv.2.2.2.2.2.2.2.2.2.1, inv.2.2.2.2.2.2.2.2.2.2.1, inv.2.2.2.2.2.2.2.2.2.2.2.1, inv.2.2.2.2.2.2.2.2.2.2.2.2.1, inv.2.2.2.2.2.2.2.2.2.2.2.2.2.1, inv.2.2.2.2.2.2.2.2.2.2.2.2.2.2.1, inv.2.2.2.2.2.2.2.2.2.2.2.2.2.2.2.1, inv.2.2.2.2.2.2.2.2.2.2.2.2.2.2.2.2.1, inv.2.2.2.2.2.2.2.2.2.2.2.2.2.2.2.2.2.1, inv.2.2.2.2.2.2.2.2.2.2.2.2.2.2.2.2.2.2.1, inv.2.2.2.2.2.2.2.2.2.2.2.2.2.2.2.2.2.2.2⟩
                  exact g_iret hF rfl d_X4_join_120 ⟨rfl, rfl, v58, rfl, ⟨j59, kp⟩⟩
                · -- not taken at 89
                  refine g_aload_n hF d_X4_join_92 rfl 0 rfl ?_
                  refine g_callV (As := []) (rest := []) hF (c_X4_settle a g r σ inv) (Nat.le_of_ble_eq_true rfl) mV_X4_settle m_1597 (recv_ob obC_10) rfl rfl (Nat.le_of_ble_eq_true rfl) d_X4_join_93 (k_v (fun σ60 ⟨iσ60, ik60⟩ => ?_)) (fun _ _ _ h => h.elim)
                  have kp : Keep [(10, 2), (10, 3), (10, 4), (10, 5), (10, 7), (10, 11)] [57, 58, 59] σ0 σ60 := keep_c kp ik60 (by decide) (by decide)
                  refine g_aload_n hF d_X4_join_96 rfl 0 rfl ?_
                  refine g_aload_n hF d_X4_join_97 rfl 0 rfl ?_
                  refine g_get (v := .ref (r 59)) hF 10 obC_10 (by decide) m_611 rfl d_X4_join_98 ?_
                  refine g_iload_n hF d_X4_join_101 rfl 1 rfl ?_
                  refine g_callSN (As := [.ref (r 59), .int x1]) (rest := [.ref (r 10)]) hF (c_at a g r σ60 arC_59 (by decide) x1) (Nat.le_of_ble_eq_true rfl) mS_X12_at nm_1552 rfl rfl (Nat.le_of_ble_eq_true rfl) d_X4_join_102 (k_rop (fun r61 hr61 => ?_))
                  refine g_put (v := r61) hF 11 obC_10 (by decide) m_613 rfl rfl rfl d_X4_join_105 ?_
                  have kp : Keep [(10, 2), (10, 3), (10, 4), (10, 5), (10, 7), (10, 11)] [57, 58, 59] σ0 (upC σ60 10 11 r61) := keep_f kp (by decide)
                  refine g_aload_n hF d_X4_join_108 rfl 0 rfl ?_
                  refine g_iconst hF (v := 1) d_X4_join_109 (by decide) ?_
                  refine g_putZ (v := 1) hF 2 obC_10 (by decide) m_599 rfl rfl rfl (Or.inr rfl) d_X4_join_110 ?_
                  have kp : Keep [(10, 2), (10, 3), (10, 4), (10, 5), (10, 7), (10, 11)] [57, 58, 59] σ0 (upC (upC σ60 10 11 r61) 10 2 1) := keep_f kp (by decide)
                  refine g_aload_n hF d_X4_join_113 rfl 0 rfl ?_
                  refine g_iconst hF (v := 1) d_X4_join_114 (by decide) ?_
                  refine g_put (v := 1) hF 5 obC_10 (by decide) m_605 rfl rfl rfl d_X4_join_115 ?_
                  have kp : Keep [(10, 2), (10, 3), (10, 4), (10, 5), (10, 7), (10, 11)] [57, 58, 59] σ0 (upC (upC (upC σ60 10 11 r61) 10 2 1) 10 5 1) := keep_f kp (by decide)
                  refine g_iload_n hF d_X4_join_118 rfl 2 rfl ?_
                  refine g_ineg hF d_X4_join_119 ?_
                  refine g_any (fun v62 => ?_)
                  have j63 : Inv (upC (upC (upC σ60 10 11 r61) 10 2 1) 10 5 1) := ⟨iσ60.1, iσ60.2.1, iσ60.2.2.1, iσ60.2.2.2.1, iσ60.2.2.2.2.1, iσ60.2.2.2.2.2.1, iσ60.2.2.2.2.2.2.1, iσ60.2.2.2.2.2.2.2.1, iσ60.2.2.2.2.2.2.2.2.1, iσ60.2.2.2.2.2.2.2.2.2.1, iσ60.2.2.2.2.2.2.2.2.2.2.1, iσ60.2.2.2.2.2.2.2.2.2.2.2.1, iσ60.2.2.2.2.2.2.2.2.2.2.2.2.1, iσ60.2.2.2.2.2.2.2.2.2.2.2.2.2.1, iσ60.2.2.2.2.2.2.2.2.2.2.2.2.2.2.1, iσ60.2.2.2.2.2.2.2.2.2.2.2.2.2.2.2.1, iσ60.2.2.2.2.2.2.2.2.2.2.2.2.2.2.2.2.1, iσ60.2.2.2.2.2.2.2.2.2.2.2.2.2.2.2.2.2.1, iσ60.2.2.2.2.2.2.2.2.2.2.2.2.2.2.2.2.2.2.1, iσ60.2.2.2.2.2.2.2.2.2.2.2.2.2.2.2.2.2.2.2⟩
                  exact g_iret hF rfl d_X4_join_120 ⟨rfl, rfl, v62, rfl, ⟨j63, kp⟩⟩
              · -- not taken at 82
                refine g_bipush hF (v := 35) d_X4_join_85 (by decide) ?_
                refine g_istore_n hF [(2, .int 35), (0, .ref (r 10)), (1, .int x1), (3, .int x3)] d_X4_join_87 rfl hnn (by decide) rfl ?_
                refine g_iload_n hF d_X4_join_88 rfl 0 rfl ?_
                refine g_if_ne (xv := 35) hF 113 d_X4_join_89 (by decide) (by decide) (fun _ => ?_) (fun c_89 => absurd c_89 (by decide))
                refine g_aload_n hF d_X4_join_113 rfl 1 rfl ?_
                refine g_iconst hF (v := 1) d_X4_join_114 (by decide) ?_
                refine g_put (v := 1) hF 5 obC_10 (by decide) m_605 rfl rfl rfl d_X4_join_115 ?_
                have kp : Keep [(10, 2), (10, 3), (10, 4), (10, 5), (10, 7), (10, 11)] [57, 58, 59] σ0 (upC σ 10 5 1) := keep_f kp (by decide)
                refine g_iload_n hF d_X4_join_118 rfl 0 rfl ?_
                refine g_ineg hF d_X4_join_119 ?_
                refine g_any (fun v64 => ?_)
                have j65 : Inv (upC σ 10 5 1) := ⟨inv.1, inv.2.1, inv.2.2.1, inv.2.2.2.1, inv.2.2.2.2.1, inv.2.2.2.2.2.1, inv.2.2.2.2.2.2.1, inv.2.2.2.2.2.2.2.1, inv.2.2.2.2.2.2.2.2.1, inv.2.2.2.2.2.2.2.2.2.1, inv.2.2.2.2.2.2.2.2.2.2.1, inv.2.2.2.2.2.2.2.2.2.2.2.1, inv.2.2.2.2.2.2.2.2.2.2.2.2.1, inv.2.2.2.2.2.2.2.2.2.2.2.2.2.1, inv.2.2.2.2.2.2.2.2.2.2.2.2.2.2.1, inv.2.2.2.2.2.2.2.2.2.2.2.2.2.2.2.1, inv.2.2.2.2.2.2.2.2.2.2.2.2.2.2.2.2.1, inv.2.2.2.2.2.2.2.2.2.2.2.2.2.2.2.2.2.1, inv.2.2.2.2.2.2.2.2.2.2.2.2.2.2.2.2.2.2.1, inv.2.2.2.2.2.2.2.2.2.2.2.2.2.2.2.2.2.2.2⟩
                exact g_iret hF rfl d_X4_join_120 ⟨rfl, rfl, v64, rfl, ⟨j65, kp⟩⟩
          · -- not taken at 57
            refine g_aload_n hF d_X4_join_60 rfl 0 rfl ?_
            refine g_iload_n hF d_X4_join_61 rfl 1 rfl ?_
            refine g_callV (As := [.int x1]) (rest := []) hF (c_X4_isMain a g r σ x1 inv) (Nat.le_of_ble_eq_true rfl) mV_X4_isMain m_1589 (recv_ob obC_10) rfl rfl (Nat.le_of_ble_eq_true rfl) d_X4_join_62 (k_roz (fun r66 hz66 => ?_)) (fun _ _ _ h => h.elim)
            refine g_if_ne hF 71 d_X4_join_65 (by decide) rfl (fun c67_65 => ?_) (fun c67_65 => ?_)
            · -- taken at 65
              refine g_iload_n hF d_X4_join_71 rfl 2 rfl ?_
              refine g_if_ne hF 88 d_X4_join_72 (by decide) rfl (fun c68_72 => ?_) (fun c68_72 => ?_)
              · -- taken at 72
                refine g_iload_n hF d_X4_join_88 rfl 2 rfl ?_
                refine g_if_ne hF 113 d_X4_join_89 (by decide) rfl (fun c69_89 => ?_) (fun c69_89 => ?_)
                · -- taken at 89
                  refine g_aload_n hF d_X4_join_113 rfl 0 rfl ?_
                  refine g_iconst hF (v := 1) d_X4_join_114 (by decide) ?_
                  refine g_put (v := 1) hF 5 obC_10 (by decide) m_605 rfl rfl rfl d_X4_join_115 ?_
                  have kp : Keep [(10, 2), (10, 3), (10, 4), (10, 5), (10, 7), (10, 11)] [57, 58, 59] σ0 (upC σ 10 5 1) := keep_f kp (by decide)
                  refine g_iload_n hF d_X4_join_118 rfl 2 rfl ?_
                  refine g_ineg hF d_X4_join_119 ?_
                  refine g_any (fun v70 => ?_)
                  have j71 : Inv (upC σ 10 5 1) := ⟨inv.1, inv.2.1, inv.2.2.1, inv.2.2.2.1, inv.2.2.2.2.1, inv.2.2.2.2.2.1, inv.2.2.2.2.2.2.1, inv.2.2.2.2.2.2.2.1, inv.2.2.2.2.2.2.2.2.1, inv.2.2.2.2.2.2.2.2.2.1, inv.2.2.2.2.2.2.2.2.2.2.1, inv.2.2.2.2.2.2.2.2.2.2.2.1, inv.2.2.2.2.2.2.2.2.2.2.2.2.1, inv.2.2.2.2.2.2.2.2.2.2.2.2.2.1, inv.2.2.2.2.2.2.2.2.2.2.2.2.2.2.1, inv.2.2.2.2.2.2.2.2.2.2.2.2.2.2.2.1, inv.2.2.2.2.2.2.2.2.2.2.2.2.2.2.2.2.1, inv.2.2.2.2.2.2.2.2.2.2.2.2.2.2.2.2.2.1, inv.2.2.2.2.2.2.2.2.2.2.2.2.2.2.2.2.2.2.1, inv.2.2.2.2.2.2.2.2.2.2.2.2.2.2.2.2.2.2.2⟩
                  exact g_iret hF rfl d_X4_join_120 ⟨rfl, rfl, v70, rfl, ⟨j71, kp⟩⟩
                · -- not taken at 89
                  refine g_aload_n hF d_X4_join_92 rfl 0 rfl ?_
                  refine g_callV (As := []) (rest := []) hF (c_X4_settle a g r σ inv) (Nat.le_of_ble_eq_true rfl) mV_X4_settle m_1597 (recv_ob obC_10) rfl rfl (Nat.le_of_ble_eq_true rfl) d_X4_join_93 (k_v (fun σ72 ⟨iσ72, ik72⟩ => ?_)) (fun _ _ _ h => h.elim)
                  have kp : Keep [(10, 2), (10, 3), (10, 4), (10, 5), (10, 7), (10, 11)] [57, 58, 59] σ0 σ72 := keep_c kp ik72 (by decide) (by decide)
                  refine g_aload_n hF d_X4_join_96 rfl 0 rfl ?_
                  refine g_aload_n hF d_X4_join_97 rfl 0 rfl ?_
                  refine g_get (v := .ref (r 59)) hF 10 obC_10 (by decide) m_611 rfl d_X4_join_98 ?_
                  refine g_iload_n hF d_X4_join_101 rfl 1 rfl ?_
                  refine g_callSN (As := [.ref (r 59), .int x1]) (rest := [.ref (r 10)]) hF (c_at a g r σ72 arC_59 (by decide) x1) (Nat.le_of_ble_eq_true rfl) mS_X12_at nm_1552 rfl rfl (Nat.le_of_ble_eq_true rfl) d_X4_join_102 (k_rop (fun r73 hr73 => ?_))
                  refine g_put (v := r73) hF 11 obC_10 (by decide) m_613 rfl rfl rfl d_X4_join_105 ?_
                  have kp : Keep [(10, 2), (10, 3), (10, 4), (10, 5), (10, 7), (10, 11)] [57, 58, 59] σ0 (upC σ72 10 11 r73) := keep_f kp (by decide)
                  refine g_aload_n hF d_X4_join_108 rfl 0 rfl ?_
                  refine g_iconst hF (v := 1) d_X4_join_109 (by decide) ?_
                  refine g_putZ (v := 1) hF 2 obC_10 (by decide) m_599 rfl rfl rfl (Or.inr rfl) d_X4_join_110 ?_
                  have kp : Keep [(10, 2), (10, 3), (10, 4), (10, 5), (10, 7), (10, 11)] [57, 58, 59] σ0 (upC (upC σ72 10 11 r73) 10 2 1) := keep_f kp (by decide)
                  refine g_aload_n hF d_X4_join_113 rfl 0 rfl ?_
                  refine g_iconst hF (v := 1) d_X4_join_114 (by decide) ?_
                  refine g_put (v := 1) hF 5 obC_10 (by decide) m_605 rfl rfl rfl d_X4_join_115 ?_
                  have kp : Keep [(10, 2), (10, 3), (10, 4), (10, 5), (10, 7), (10, 11)] [57, 58, 59] σ0 (upC (upC (upC σ72 10 11 r73) 10 2 1) 10 5 1) := keep_f kp (by decide)
                  refine g_iload_n hF d_X4_join_118 rfl 2 rfl ?_
                  refine g_ineg hF d_X4_join_119 ?_
                  refine g_any (fun v74 => ?_)
                  have j75 : Inv (upC (upC (upC σ72 10 11 r73) 10 2 1) 10 5 1) := ⟨iσ72.1, iσ72.2.1, iσ72.2.2.1, iσ72.2.2.2.1, iσ72.2.2.2.2.1, iσ72.2.2.2.2.2.1, iσ72.2.2.2.2.2.2.1, iσ72.2.2.2.2.2.2.2.1, iσ72.2.2.2.2.2.2.2.2.1, iσ72.2.2.2.2.2.2.2.2.2.1, iσ72.2.2.2.2.2.2.2.2.2.2.1, iσ72.2.2.2.2.2.2.2.2.2.2.2.1, iσ72.2.2.2.2.2.2.2.2.2.2.2.2.1, iσ72.2.2.2.2.2.2.2.2.2.2.2.2.2.1, iσ72.2.2.2.2.2.2.2.2.2.2.2.2.2.2.1, iσ72.2.2.2.2.2.2.2.2.2.2.2.2.2.2.2.1, iσ72.2.2.2.2.2.2.2.2.2.2.2.2.2.2.2.2.1, iσ72.2.2.2.2.2.2.2.2.2.2.2.2.2.2.2.2.2.1, iσ72.2.2.2.2.2.2.2.2.2.2.2.2.2.2.2.2.2.2.1, iσ72.2.2.2.2.2.2.2.2.2.2.2.2.2.2.2.2.2.2.2⟩
                  exact g_iret hF rfl d_X4_join_120 ⟨rfl, rfl, v74, rfl, ⟨j75, kp⟩⟩
              · -- not taken at 72
                refine g_aload_n hF d_X4_join_75 rfl 0 rfl ?_
                refine g_callV (As := []) (rest := []) hF (c_X4_dataCells a g r σ inv) (Nat.le_of_ble_eq_true rfl) mV_X4_dataCells m_1593 (recv_ob obC_10) rfl rfl (Nat.le_of_ble_eq_true rfl) d_X4_join_76 (k_ro (fun r76 => ?_)) (fun _ _ _ h => h.elim)
                refine g_sipush hF (v := 16000) d_X4_join_79 (by decide) ?_
                refine g_icmp_le (yv := 16000) hF 88 d_X4_join_82 (by decide) rfl (by decide) (fun c77_82 => ?_) (fun c77_82 => ?_)
                · -- taken at 82
                  refine g_iload_n hF d_X4_join_88 rfl 2 rfl ?_
                  refine g_if_ne hF 113 d_X4_join_89 (by decide) rfl (fun c78_89 => ?_) (fun c78_89 => ?_)
                  · -- taken at 89
                    refine g_aload_n hF d_X4_join_113 rfl 0 rfl ?_
                    refine g_iconst hF (v := 1) d_X4_join_114 (by decide) ?_
                    refine g_put (v := 1) hF 5 obC_10 (by decide) m_605 rfl rfl rfl d_X4_join_115 ?_
                    have kp : Keep [(10, 2), (10, 3), (10, 4), (10, 5), (10, 7), (10, 11)] [57, 58, 59] σ0 (upC σ 10 5 1) := keep_f kp (by decide)
                    refine g_iload_n hF d_X4_join_118 rfl 2 rfl ?_
                    refine g_ineg hF d_X4_join_119 ?_
                    refine g_any (fun v79 => ?_)
                    have j80 : Inv (upC σ 10 5 1) := ⟨inv.1, inv.2.1, inv.2.2.1, inv.2.2.2.1, inv.2.2.2.2.1, inv.2.2.2.2.2.1, inv.2.2.2.2.2.2.1, inv.2.2.2.2.2.2.2.1, inv.2.2.2.2.2.2.2.2.1, inv.2.2.2.2.2.2.2.2.2.1, inv.2.2.2.2.2.2.2.2.2.2.1, inv.2.2.2.2.2.2.2.2.2.2.2.1, inv.2.2.2.2.2.2.2.2.2.2.2.2.1, inv.2.2.2.2.2.2.2.2.2.2.2.2.2.1, inv.2.2.2.2.2.2.2.2.2.2.2.2.2.2.1, inv.2.2.2.2.2.2.2.2.2.2.2.2.2.2.2.1, inv.2.2.2.2.2.2.2.2.2.2.2.2.2.2.2.2.1, inv.2.2.2.2.2.2.2.2.2.2.2.2.2.2.2.2.2.1, inv.2.2.2.2.2.2.2.2.2.2.2.2.2.2.2.2.2.2.1, inv.2.2.2.2.2.2.2.2.2.2.2.2.2.2.2.2.2.2.2⟩
                    exact g_iret hF rfl d_X4_join_120 ⟨rfl, rfl, v79, rfl, ⟨j80, kp⟩⟩
                  · -- not taken at 89
                    refine g_aload_n hF d_X4_join_92 rfl 0 rfl ?_
                    refine g_callV (As := []) (rest := []) hF (c_X4_settle a g r σ inv) (Nat.le_of_ble_eq_true rfl) mV_X4_settle m_1597 (recv_ob obC_10) rfl rfl (Nat.le_of_ble_eq_true rfl) d_X4_join_93 (k_v (fun σ81 ⟨iσ81, ik81⟩ => ?_)) (fun _ _ _ h => h.elim)
                    have kp : Keep [(10, 2), (10, 3), (10, 4), (10, 5), (10, 7), (10, 11)] [57, 58, 59] σ0 σ81 := keep_c kp ik81 (by decide) (by decide)
                    refine g_aload_n hF d_X4_join_96 rfl 0 rfl ?_
                    refine g_aload_n hF d_X4_join_97 rfl 0 rfl ?_
                    refine g_get (v := .ref (r 59)) hF 10 obC_10 (by decide) m_611 rfl d_X4_join_98 ?_
                    refine g_iload_n hF d_X4_join_101 rfl 1 rfl ?_
                    refine g_callSN (As := [.ref (r 59), .int x1]) (rest := [.ref (r 10)]) hF (c_at a g r σ81 arC_59 (by decide) x1) (Nat.le_of_ble_eq_true rfl) mS_X12_at nm_1552 rfl rfl (Nat.le_of_ble_eq_true rfl) d_X4_join_102 (k_rop (fun r82 hr82 => ?_))
                    refine g_put (v := r82) hF 11 obC_10 (by decide) m_613 rfl rfl rfl d_X4_join_105 ?_
                    have kp : Keep [(10, 2), (10, 3), (10, 4), (10, 5), (10, 7), (10, 11)] [57, 58, 59] σ0 (upC σ81 10 11 r82) := keep_f kp (by decide)
                    refine g_aload_n hF d_X4_join_108 rfl 0 rfl ?_
                    refine g_iconst hF (v := 1) d_X4_join_109 (by decide) ?_
                    refine g_putZ (v := 1) hF 2 obC_10 (by decide) m_599 rfl rfl rfl (Or.inr rfl) d_X4_join_110 ?_
                    have kp : Keep [(10, 2), (10, 3), (10, 4), (10, 5), (10, 7), (10, 11)] [57, 58, 59] σ0 (upC (upC σ81 10 11 r82) 10 2 1) := keep_f kp (by decide)
                    refine g_aload_n hF d_X4_join_113 rfl 0 rfl ?_
                    refine g_iconst hF (v := 1) d_X4_join_114 (by decide) ?_
                    refine g_put (v := 1) hF 5 obC_10 (by decide) m_605 rfl rfl rfl d_X4_join_115 ?_
                    have kp : Keep [(10, 2), (10, 3), (10, 4), (10, 5), (10, 7), (10, 11)] [57, 58, 59] σ0 (upC (upC (upC σ81 10 11 r82) 10 2 1) 10 5 1) := keep_f kp (by decide)
                    refine g_iload_n hF d_X4_join_118 rfl 2 rfl ?_
                    refine g_ineg hF d_X4_join_119 ?_
                    refine g_any (fun v83 => ?_)
                    have j84 : Inv (upC (upC (upC σ81 10 11 r82) 10 2 1) 10 5 1) := ⟨iσ81.1, iσ81.2.1, iσ81.2.2.1, iσ81.2.2.2.1, iσ81.2.2.2.2.1, iσ81.2.2.2.2.2.1, iσ81.2.2.2.2.2.2.1, iσ81.2.2.2.2.2.2.2.1, iσ81.2.2.2.2.2.2.2.2.1, iσ81.2.2.2.2.2.2.2.2.2.1, iσ81.2.2.2.2.2.2.2.2.2.2.1, iσ81.2.2.2.2.2.2.2.2.2.2.2.1, iσ81.2.2.2.2.2.2.2.2.2.2.2.2.1, iσ81.2.2.2.2.2.2.2.2.2.2.2.2.2.1, iσ81.2.2.2.2.2.2.2.2.2.2.2.2.2.2.1, iσ81.2.2.2.2.2.2.2.2.2.2.2.2.2.2.2.1, iσ81.2.2.2.2.2.2.2.2.2.2.2.2.2.2.2.2.1, iσ81.2.2.2.2.2.2.2.2.2.2.2.2.2.2.2.2.2.1, iσ81.2.2.2.2.2.2.2.2.2.2.2.2.2.2.2.2.2.2.1, iσ81.2.2.2.2.2.2.2.2.2.2.2.2.2.2.2.2.2.2.2⟩
                    exact g_iret hF rfl d_X4_join_120 ⟨rfl, rfl, v83, rfl, ⟨j84, kp⟩⟩
                · -- not taken at 82
                  refine g_bipush hF (v := 35) d_X4_join_85 (by decide) ?_
                  refine g_istore_n hF [(2, .int 35), (0, .ref (r 10)), (1, .int x1), (3, .int x3)] d_X4_join_87 rfl hnn (by decide) rfl ?_
                  refine g_iload_n hF d_X4_join_88 rfl 0 rfl ?_
                  refine g_if_ne (xv := 35) hF 113 d_X4_join_89 (by decide) (by decide) (fun _ => ?_) (fun c_89 => absurd c_89 (by decide))
                  refine g_aload_n hF d_X4_join_113 rfl 1 rfl ?_
                  refine g_iconst hF (v := 1) d_X4_join_114 (by decide) ?_
                  refine g_put (v := 1) hF 5 obC_10 (by decide) m_605 rfl rfl rfl d_X4_join_115 ?_
                  have kp : Keep [(10, 2), (10, 3), (10, 4), (10, 5), (10, 7), (10, 11)] [57, 58, 59] σ0 (upC σ 10 5 1) := keep_f kp (by decide)
                  refine g_iload_n hF d_X4_join_118 rfl 0 rfl ?_
                  refine g_ineg hF d_X4_join_119 ?_
                  refine g_any (fun v85 => ?_)
                  have j86 : Inv (upC σ 10 5 1) := ⟨inv.1, inv.2.1, inv.2.2.1, inv.2.2.2.1, inv.2.2.2.2.1, inv.2.2.2.2.2.1, inv.2.2.2.2.2.2.1, inv.2.2.2.2.2.2.2.1, inv.2.2.2.2.2.2.2.2.1, inv.2.2.2.2.2.2.2.2.2.1, inv.2.2.2.2.2.2.2.2.2.2.1, inv.2.2.2.2.2.2.2.2.2.2.2.1, inv.2.2.2.2.2.2.2.2.2.2.2.2.1, inv.2.2.2.2.2.2.2.2.2.2.2.2.2.1, inv.2.2.2.2.2.2.2.2.2.2.2.2.2.2.1, inv.2.2.2.2.2.2.2.2.2.2.2.2.2.2.2.1, inv.2.2.2.2.2.2.2.2.2.2.2.2.2.2.2.2.1, inv.2.2.2.2.2.2.2.2.2.2.2.2.2.2.2.2.2.1, inv.2.2.2.2.2.2.2.2.2.2.2.2.2.2.2.2.2.2.1, inv.2.2.2.2.2.2.2.2.2.2.2.2.2.2.2.2.2.2.2⟩
                  exact g_iret hF rfl d_X4_join_120 ⟨rfl, rfl, v85, rfl, ⟨j86, kp⟩⟩
            · -- not taken at 65
              refine g_bipush hF (v := 34) d_X4_join_68 (by decide) ?_
              refine g_istore_n hF [(2, .int 34), (0, .ref (r 10)), (1, .int x1), (3, .int x3)] d_X4_join_70 rfl hnn (by decide) rfl ?_
              refine g_iload_n hF d_X4_join_71 rfl 0 rfl ?_
              refine g_if_ne (xv := 34) hF 88 d_X4_join_72 (by decide) (by decide) (fun _ => ?_) (fun c_72 => absurd c_72 (by decide))
              refine g_iload_n hF d_X4_join_88 rfl 0 rfl ?_
              refine g_if_ne (xv := 34) hF 113 d_X4_join_89 (by decide) (by decide) (fun _ => ?_) (fun c_89 => absurd c_89 (by decide))
              refine g_aload_n hF d_X4_join_113 rfl 1 rfl ?_
              refine g_iconst hF (v := 1) d_X4_join_114 (by decide) ?_
              refine g_put (v := 1) hF 5 obC_10 (by decide) m_605 rfl rfl rfl d_X4_join_115 ?_
              have kp : Keep [(10, 2), (10, 3), (10, 4), (10, 5), (10, 7), (10, 11)] [57, 58, 59] σ0 (upC σ 10 5 1) := keep_f kp (by decide)
              refine g_iload_n hF d_X4_join_118 rfl 0 rfl ?_
              refine g_ineg hF d_X4_join_119 ?_
              refine g_any (fun v87 => ?_)
              have j88 : Inv (upC σ 10 5 1) := ⟨inv.1, inv.2.1, inv.2.2.1, inv.2.2.2.1, inv.2.2.2.2.1, inv.2.2.2.2.2.1, inv.2.2.2.2.2.2.1, inv.2.2.2.2.2.2.2.1, inv.2.2.2.2.2.2.2.2.1, inv.2.2.2.2.2.2.2.2.2.1, inv.2.2.2.2.2.2.2.2.2.2.1, inv.2.2.2.2.2.2.2.2.2.2.2.1, inv.2.2.2.2.2.2.2.2.2.2.2.2.1, inv.2.2.2.2.2.2.2.2.2.2.2.2.2.1, inv.2.2.2.2.2.2.2.2.2.2.2.2.2.2.1, inv.2.2.2.2.2.2.2.2.2.2.2.2.2.2.2.1, inv.2.2.2.2.2.2.2.2.2.2.2.2.2.2.2.2.1, inv.2.2.2.2.2.2.2.2.2.2.2.2.2.2.2.2.2.1, inv.2.2.2.2.2.2.2.2.2.2.2.2.2.2.2.2.2.2.1, inv.2.2.2.2.2.2.2.2.2.2.2.2.2.2.2.2.2.2.2⟩
              exact g_iret hF rfl d_X4_join_120 ⟨rfl, rfl, v87, rfl, ⟨j88, kp⟩⟩
        · -- not taken at 41
          refine g_aload_n hF d_X4_join_44 rfl 0 rfl ?_
          refine g_iload_n hF d_X4_join_45 rfl 3 rfl ?_
          refine g_callV (As := [.int x3]) (rest := []) hF (c_X4_look a g r σ x3 inv) (Nat.le_of_ble_eq_true rfl) mV_X4_look m_1572 (recv_ob obC_10) rfl rfl (Nat.le_of_ble_eq_true rfl) d_X4_join_46 (k_i (fun r89 σ89 ⟨iσ89, ik89⟩ => ?_)) (fun _ _ _ h => h.elim)
          have kp : Keep [(10, 2), (10, 3), (10, 4), (10, 5), (10, 7), (10, 11)] [57, 58, 59] σ0 σ89 := keep_c kp ik89 (by decide) (by decide)
          refine g_istore_n hF [(2, .int r89), (0, .ref (r 10)), (1, .int x1), (3, .int x3)] d_X4_join_49 rfl hnn (by decide) rfl ?_
          refine g_iinc hF (x3 + 1) [(3, .int (x3 + 1)), (2, .int r89), (0, .ref (r 10)), (1, .int x1)] d_X4_join_50 3 rfl rfl hnn (by decide) rfl ?_
          refine g_goto hF 34 d_X4_join_53 (by decide) ?_
          exact g_sub (L' := [(0, .ref (r 10)), (1, .int x1), (2, .int r89), (3, .int (x3 + 1))]) [2, 3, 1, 0] rfl (ih34 _ (by show upm (x3 + 1) < _; have hN := N34; unfold upm at hN ⊢; have e0 := s_rng x3; have e1 : (1 : Int32).toInt = 1 := (by decide); obtain ⟨k2, e2⟩ := s_add x3 (1 : Int32); have e2a := s_rng (x3 + 1); have e4 : (33 : Int32).toInt = 33 := (by decide); omega) σ89 x1 r89 (x3 + 1) rfl iσ89 kp)
  have kp : Keep [(10, 2), (10, 3), (10, 4), (10, 5), (10, 7), (10, 11)] [57, 58, 59] σ0 σ0 := keep_rf
  refine g_aload_n hF d_X4_join_0 rfl 0 rfl ?_
  refine g_iconst hF (v := (-1)) d_X4_join_1 (by decide) ?_
  refine g_put (v := (-1)) hF 3 obC_10 (by decide) m_601 rfl rfl rfl d_X4_join_2 ?_
  have kp : Keep [(10, 2), (10, 3), (10, 4), (10, 5), (10, 7), (10, 11)] [57, 58, 59] σ0 (upC σ0 10 3 (-1)) := keep_f kp (by decide)
  refine g_aload_n hF d_X4_join_5 rfl 0 rfl ?_
  refine g_iconst hF (v := (-1)) d_X4_join_6 (by decide) ?_
  refine g_put (v := (-1)) hF 4 obC_10 (by decide) m_603 rfl rfl rfl d_X4_join_7 ?_
  have kp : Keep [(10, 2), (10, 3), (10, 4), (10, 5), (10, 7), (10, 11)] [57, 58, 59] σ0 (upC (upC σ0 10 3 (-1)) 10 4 (-1)) := keep_f kp (by decide)
  refine g_aload_n hF d_X4_join_10 rfl 0 rfl ?_
  refine g_aload_n hF d_X4_join_11 rfl 0 rfl ?_
  refine g_get (v := .ref (r 56)) hF 6 obC_10 (by decide) m_606 rfl d_X4_join_12 ?_
  refine g_aload_n hF d_X4_join_15 rfl 0 rfl ?_
  refine g_get (v := .int (σ0 10 5)) hF 5 obC_10 (by decide) m_605 rfl d_X4_join_16 ?_
  refine g_aload_n hF d_X4_join_19 rfl 0 rfl ?_
  refine g_get (v := .ref (r 55)) hF 1 obC_10 (by decide) m_598 rfl d_X4_join_20 ?_
  refine g_iconst hF (v := 0) d_X4_join_23 (by decide) ?_
  refine g_iconst hF (v := 4) d_X4_join_24 (by decide) ?_
  have j91 : Inv (upC (upC σ0 10 3 (-1)) 10 4 (-1)) := ⟨i0.1, i0.2.1, i0.2.2.1, i0.2.2.2.1, i0.2.2.2.2.1, i0.2.2.2.2.2.1, i0.2.2.2.2.2.2.1, i0.2.2.2.2.2.2.2.1, i0.2.2.2.2.2.2.2.2.1, i0.2.2.2.2.2.2.2.2.2.1, i0.2.2.2.2.2.2.2.2.2.2.1, i0.2.2.2.2.2.2.2.2.2.2.2.1, i0.2.2.2.2.2.2.2.2.2.2.2.2.1, i0.2.2.2.2.2.2.2.2.2.2.2.2.2.1, i0.2.2.2.2.2.2.2.2.2.2.2.2.2.2.1, i0.2.2.2.2.2.2.2.2.2.2.2.2.2.2.2.1, i0.2.2.2.2.2.2.2.2.2.2.2.2.2.2.2.2.1, i0.2.2.2.2.2.2.2.2.2.2.2.2.2.2.2.2.2.1, i0.2.2.2.2.2.2.2.2.2.2.2.2.2.2.2.2.2.2.1, i0.2.2.2.2.2.2.2.2.2.2.2.2.2.2.2.2.2.2.2⟩
  refine g_callV (As := [.ref (r 56), .int (σ0 10 5), .ref (r 55), .int 0, .int 4]) (rest := []) hF (c_X4_find_r10_r56_r55 a g r (upC (upC σ0 10 3 (-1)) 10 4 (-1)) (σ0 10 5) (0 : Int32) (4 : Int32) j91) (Nat.le_of_ble_eq_true rfl) mV_X4_find m_1562 (recv_ob obC_10) rfl rfl (Nat.le_of_ble_eq_true rfl) d_X4_join_25 (k_ro (fun r90 => ?_)) (fun _ _ _ h => h.elim)
  refine g_istore_n hF [(1, .int r90), (0, .ref (r 10))] d_X4_join_28 rfl hnn (by decide) rfl ?_
  refine g_iconst hF (v := 0) d_X4_join_29 (by decide) ?_
  refine g_istore_n hF [(2, .int 0), (1, .int r90), (0, .ref (r 10))] d_X4_join_30 rfl hnn (by decide) rfl ?_
  refine g_bipush hF (v := 31) d_X4_join_31 (by decide) ?_
  refine g_istore_n hF [(3, .int 31), (2, .int 0), (1, .int r90), (0, .ref (r 10))] d_X4_join_33 rfl hnn (by decide) rfl ?_
  exact g_sub (L' := [(0, .ref (r 10)), (1, .int r90), (2, .int 0), (3, .int 31)]) [3, 2, 1, 0] rfl (b34 _ (upC (upC σ0 10 3 (-1)) 10 4 (-1)) r90 (0 : Int32) (31 : Int32) rfl j91 kp)
set_option maxHeartbeats 4000000 in
set_option maxRecDepth 100000 in
theorem c_X12_link (a : Nat → Nat) (g : Nat → Nat → Int32) (r : Nat → Nat) (σ0 : St) (i0 : Inv σ0) (l : Launch) (D : va_G) (cy : Nat → ClassId) : Ct l D cy SC r (EC a g) y_X12_link (Cond.code y_X12_link b_X12_link 1 (some .int)) 7 [.ref (r 0)] σ0 Z0 [] (QI (fun _ σ9 => (Inv σ9 ∧ Keep [(10, 2), (10, 3), (10, 4), (10, 5), (10, 7), (10, 11)] [57, 58, 59] σ0 σ9))) QF := by
  refine Ct_of (EC_ok a g) (by decide) (Nat.le_of_ble_eq_true rfl) (by decide) (fun X hnn hF => ?_)
  show G SC r X σ0 Z0 [] [(0, .ref (r 0))] [] 0
  have kp : Keep [(10, 2), (10, 3), (10, 4), (10, 5), (10, 7), (10, 11)] [57, 58, 59] σ0 σ0 := keep_rf
  refine g_aload_n hF d_X12_link_0 rfl 0 rfl ?_
  refine g_get (v := .ref (r 10)) hF 12 obC_0 (by decide) m_747 rfl d_X12_link_1 ?_
  refine g_callVN (As := []) (rest := []) hF (c_X4_join a g r σ0 i0) (Nat.le_of_ble_eq_true rfl) mV_X4_join nm_1558 (recv_ob obC_10) rfl rfl (Nat.le_of_ble_eq_true rfl) d_X12_link_4 (k_i (fun r1 σ1 ⟨iσ1, ik1⟩ => ?_))
  have kp : Keep [(10, 2), (10, 3), (10, 4), (10, 5), (10, 7), (10, 11)] [57, 58, 59] σ0 σ1 := keep_c kp ik1 (by decide) (by decide)
  exact g_iret hF rfl d_X12_link_7 ⟨rfl, rfl, r1, rfl, ⟨iσ1, kp⟩⟩
