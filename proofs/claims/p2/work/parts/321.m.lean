set_option maxHeartbeats 4000000 in
set_option maxRecDepth 100000 in
theorem c_X4_join (a : Nat → Nat) (g : Nat → Nat → Int32) (r : Nat → Nat) (σ0 : St) (i0 : Inv σ0) (l : Launch) (D : va_G) (cy : Nat → ClassId) : Ct l D cy SC r (EC a g) y_X4_join (Cond.code y_X4_join b_X4_join 4 (some .int)) 6 [.ref (r 10)] σ0 Z0 [] (QI (fun _ σ9 => (Inv σ9 ∧ Keep [(10, 2), (10, 3), (10, 4), (10, 5), (10, 7), (10, 11)] [57, 58, 59] σ0 σ9))) QF := by
  refine Ct_of (EC_ok a g) (by decide) (Nat.le_of_ble_eq_true rfl) (by decide) (fun X hnn hF => ?_)
  show G SC r X σ0 Z0 [] [(0, .ref (r 10))] [] 0
  have b34 : ∀ (N : Nat) (σ : St) (x1 : Int32) (x2 : Int32) (x3 : Int32) , upm x3 = N → Inv σ → Keep [(10, 2), (10, 3), (10, 4), (10, 5), (10, 7), (10, 11)] [57, 58, 59] σ0 σ → G SC r X σ Z0 [] [(0, .ref (r 10)), (1, .int x1), (2, .int x2), (3, .int x3)] [] 34 := by
    intro M34
    induction M34 using Nat.strongRecOn with
    | _ M34 ih34 =>
      intro σ x1 x2 x3 N34 inv kp
      refine g_iload_n hF d_X4_join_34 rfl 3 rfl ?_
      refine g_bipush hF (v := 33) d_X4_join_35 (by decide) ?_
      refine g_icmp_gt (yv := 33) hF 56 d_X4_join_37 (by decide) rfl (by decide) (fun c1_37 => ?_) (fun c1_37 => ?_)
      · -- taken at 37
        refine g_iload_n hF d_X4_join_56 rfl 2 rfl ?_
        refine g_if_ne hF 71 d_X4_join_57 (by decide) rfl (fun c2_57 => ?_) (fun c2_57 => ?_)
        · -- taken at 57
          refine g_iload_n hF d_X4_join_71 rfl 2 rfl ?_
          refine g_if_ne hF 88 d_X4_join_72 (by decide) rfl (fun c3_72 => ?_) (fun c3_72 => ?_)
          · -- taken at 72
            refine g_iload_n hF d_X4_join_88 rfl 2 rfl ?_
            refine g_if_ne hF 113 d_X4_join_89 (by decide) rfl (fun c4_89 => ?_) (fun c4_89 => ?_)
            · -- taken at 89
              refine g_aload_n hF d_X4_join_113 rfl 0 rfl ?_
              refine g_iconst hF (v := 1) d_X4_join_114 (by decide) ?_
              refine g_put (v := 1) hF 5 obC_10 (by decide) m_605 rfl rfl rfl d_X4_join_115 ?_
              have kp : Keep [(10, 2), (10, 3), (10, 4), (10, 5), (10, 7), (10, 11)] [57, 58, 59] σ0 (upC σ 10 5 1) := keep_f kp (by decide)
              refine g_iload_n hF d_X4_join_118 rfl 2 rfl ?_
              refine g_ineg hF d_X4_join_119 ?_
              refine g_any (fun v5 => ?_)
              exact g_iret hF rfl d_X4_join_120 ⟨rfl, rfl, v5, rfl, ⟨inv, kp⟩⟩
            · -- not taken at 89
              refine g_aload_n hF d_X4_join_92 rfl 0 rfl ?_
              refine g_callV (As := []) (rest := []) hF (c_X4_settle a g r σ inv) (Nat.le_of_ble_eq_true rfl) mV_X4_settle m_1597 (recv_ob obC_10) rfl rfl (Nat.le_of_ble_eq_true rfl) d_X4_join_93 (k_v (fun σ6 ⟨iσ6, ik6⟩ => ?_)) (fun _ _ _ h => h.elim)
              have kp : Keep [(10, 2), (10, 3), (10, 4), (10, 5), (10, 7), (10, 11)] [57, 58, 59] σ0 σ6 := keep_c kp ik6 (by decide) (by decide)
              refine g_aload_n hF d_X4_join_96 rfl 0 rfl ?_
              refine g_aload_n hF d_X4_join_97 rfl 0 rfl ?_
              refine g_get (v := .ref (r 59)) hF 10 obC_10 (by decide) m_611 rfl d_X4_join_98 ?_
              refine g_iload_n hF d_X4_join_101 rfl 1 rfl ?_
              refine g_callSN (As := [.ref (r 59), .int x1]) (rest := [.ref (r 10)]) hF (c_at a g r σ6 arC_59 (by decide) x1) (Nat.le_of_ble_eq_true rfl) mS_X12_at nm_1552 rfl rfl (Nat.le_of_ble_eq_true rfl) d_X4_join_102 (k_ro (fun r7 => ?_))
              refine g_put (v := r7) hF 11 obC_10 (by decide) m_613 rfl rfl rfl d_X4_join_105 ?_
              have kp : Keep [(10, 2), (10, 3), (10, 4), (10, 5), (10, 7), (10, 11)] [57, 58, 59] σ0 (upC σ6 10 11 r7) := keep_f kp (by decide)
              refine g_aload_n hF d_X4_join_108 rfl 0 rfl ?_
              refine g_iconst hF (v := 1) d_X4_join_109 (by decide) ?_
              refine g_putZ (v := 1) hF 2 obC_10 (by decide) m_599 rfl rfl rfl (Or.inr rfl) d_X4_join_110 ?_
              have kp : Keep [(10, 2), (10, 3), (10, 4), (10, 5), (10, 7), (10, 11)] [57, 58, 59] σ0 (upC (upC σ6 10 11 r7) 10 2 1) := keep_f kp (by decide)
              refine g_aload_n hF d_X4_join_113 rfl 0 rfl ?_
              refine g_iconst hF (v := 1) d_X4_join_114 (by decide) ?_
              refine g_put (v := 1) hF 5 obC_10 (by decide) m_605 rfl rfl rfl d_X4_join_115 ?_
              have kp : Keep [(10, 2), (10, 3), (10, 4), (10, 5), (10, 7), (10, 11)] [57, 58, 59] σ0 (upC (upC (upC σ6 10 11 r7) 10 2 1) 10 5 1) := keep_f kp (by decide)
              refine g_iload_n hF d_X4_join_118 rfl 2 rfl ?_
              refine g_ineg hF d_X4_join_119 ?_
              refine g_any (fun v8 => ?_)
              exact g_iret hF rfl d_X4_join_120 ⟨rfl, rfl, v8, rfl, ⟨iσ6, kp⟩⟩
          · -- not taken at 72
            refine g_aload_n hF d_X4_join_75 rfl 0 rfl ?_
            refine g_callV (As := []) (rest := []) hF (c_X4_dataCells a g r σ inv) (Nat.le_of_ble_eq_true rfl) mV_X4_dataCells m_1593 (recv_ob obC_10) rfl rfl (Nat.le_of_ble_eq_true rfl) d_X4_join_76 (k_ro (fun r9 => ?_)) (fun _ _ _ h => h.elim)
            refine g_sipush hF (v := 16000) d_X4_join_79 (by decide) ?_
            refine g_icmp_le (yv := 16000) hF 88 d_X4_join_82 (by decide) rfl (by decide) (fun c10_82 => ?_) (fun c10_82 => ?_)
            · -- taken at 82
              refine g_iload_n hF d_X4_join_88 rfl 2 rfl ?_
              refine g_if_ne hF 113 d_X4_join_89 (by decide) rfl (fun c11_89 => ?_) (fun c11_89 => ?_)
              · -- taken at 89
                refine g_aload_n hF d_X4_join_113 rfl 0 rfl ?_
                refine g_iconst hF (v := 1) d_X4_join_114 (by decide) ?_
                refine g_put (v := 1) hF 5 obC_10 (by decide) m_605 rfl rfl rfl d_X4_join_115 ?_
                have kp : Keep [(10, 2), (10, 3), (10, 4), (10, 5), (10, 7), (10, 11)] [57, 58, 59] σ0 (upC σ 10 5 1) := keep_f kp (by decide)
                refine g_iload_n hF d_X4_join_118 rfl 2 rfl ?_
                refine g_ineg hF d_X4_join_119 ?_
                refine g_any (fun v12 => ?_)
                exact g_iret hF rfl d_X4_join_120 ⟨rfl, rfl, v12, rfl, ⟨inv, kp⟩⟩
              · -- not taken at 89
                refine g_aload_n hF d_X4_join_92 rfl 0 rfl ?_
                refine g_callV (As := []) (rest := []) hF (c_X4_settle a g r σ inv) (Nat.le_of_ble_eq_true rfl) mV_X4_settle m_1597 (recv_ob obC_10) rfl rfl (Nat.le_of_ble_eq_true rfl) d_X4_join_93 (k_v (fun σ13 ⟨iσ13, ik13⟩ => ?_)) (fun _ _ _ h => h.elim)
                have kp : Keep [(10, 2), (10, 3), (10, 4), (10, 5), (10, 7), (10, 11)] [57, 58, 59] σ0 σ13 := keep_c kp ik13 (by decide) (by decide)
                refine g_aload_n hF d_X4_join_96 rfl 0 rfl ?_
                refine g_aload_n hF d_X4_join_97 rfl 0 rfl ?_
                refine g_get (v := .ref (r 59)) hF 10 obC_10 (by decide) m_611 rfl d_X4_join_98 ?_
                refine g_iload_n hF d_X4_join_101 rfl 1 rfl ?_
                refine g_callSN (As := [.ref (r 59), .int x1]) (rest := [.ref (r 10)]) hF (c_at a g r σ13 arC_59 (by decide) x1) (Nat.le_of_ble_eq_true rfl) mS_X12_at nm_1552 rfl rfl (Nat.le_of_ble_eq_true rfl) d_X4_join_102 (k_ro (fun r14 => ?_))
                refine g_put (v := r14) hF 11 obC_10 (by decide) m_613 rfl rfl rfl d_X4_join_105 ?_
                have kp : Keep [(10, 2), (10, 3), (10, 4), (10, 5), (10, 7), (10, 11)] [57, 58, 59] σ0 (upC σ13 10 11 r14) := keep_f kp (by decide)
                refine g_aload_n hF d_X4_join_108 rfl 0 rfl ?_
                refine g_iconst hF (v := 1) d_X4_join_109 (by decide) ?_
                refine g_putZ (v := 1) hF 2 obC_10 (by decide) m_599 rfl rfl rfl (Or.inr rfl) d_X4_join_110 ?_
                have kp : Keep [(10, 2), (10, 3), (10, 4), (10, 5), (10, 7), (10, 11)] [57, 58, 59] σ0 (upC (upC σ13 10 11 r14) 10 2 1) := keep_f kp (by decide)
                refine g_aload_n hF d_X4_join_113 rfl 0 rfl ?_
                refine g_iconst hF (v := 1) d_X4_join_114 (by decide) ?_
                refine g_put (v := 1) hF 5 obC_10 (by decide) m_605 rfl rfl rfl d_X4_join_115 ?_
                have kp : Keep [(10, 2), (10, 3), (10, 4), (10, 5), (10, 7), (10, 11)] [57, 58, 59] σ0 (upC (upC (upC σ13 10 11 r14) 10 2 1) 10 5 1) := keep_f kp (by decide)
                refine g_iload_n hF d_X4_join_118 rfl 2 rfl ?_
                refine g_ineg hF d_X4_join_119 ?_
                refine g_any (fun v15 => ?_)
                exact g_iret hF rfl d_X4_join_120 ⟨rfl, rfl, v15, rfl, ⟨iσ13, kp⟩⟩
            · -- not taken at 82
              refine g_bipush hF (v := 35) d_X4_join_85 (by decide) ?_
              refine g_istore_n hF [(2, .int 35), (0, .ref (r 10)), (1, .int x1), (3, .int x3)] d_X4_join_87 rfl hnn (by decide) rfl ?_
              refine g_iload_n hF d_X4_join_88 rfl 0 rfl ?_
              refine g_if_ne (xv := 35) hF 113 d_X4_join_89 (by decide) (by decide) (fun _ => ?_) (fun c_89 => absurd c_89 (by decide))
              refine g_aload_n hF d_X4_join_113 rfl 1 rfl ?_
              refine g_iconst hF (v := 1) d_X4_join_114 (by decide) ?_
              refine g_put (v := 1) hF 5 obC_10 (by decide) m_605 rfl rfl rfl d_X4_join_115 ?_
              have kp : Keep [(10, 2), (10, 3), (10, 4), (10, 5), (10, 7), (10, 11)] [57, 58, 59] σ0 (upC σ 10 5 1) := keep_f kp (by decide)
              refine g_iload_n hF d_X4_join_118 rfl 0 rfl ?_
              refine g_ineg hF d_X4_join_119 ?_
              refine g_any (fun v16 => ?_)
              exact g_iret hF rfl d_X4_join_120 ⟨rfl, rfl, v16, rfl, ⟨inv, kp⟩⟩
        · -- not taken at 57
          refine g_aload_n hF d_X4_join_60 rfl 0 rfl ?_
          refine g_iload_n hF d_X4_join_61 rfl 1 rfl ?_
          refine g_callV (As := [.int x1]) (rest := []) hF (c_X4_isMain a g r σ x1 inv) (Nat.le_of_ble_eq_true rfl) mV_X4_isMain m_1589 (recv_ob obC_10) rfl rfl (Nat.le_of_ble_eq_true rfl) d_X4_join_62 (k_roz (fun r17 hz17 => ?_)) (fun _ _ _ h => h.elim)
          refine g_if_ne hF 71 d_X4_join_65 (by decide) rfl (fun c18_65 => ?_) (fun c18_65 => ?_)
          · -- taken at 65
            refine g_iload_n hF d_X4_join_71 rfl 2 rfl ?_
            refine g_if_ne hF 88 d_X4_join_72 (by decide) rfl (fun c19_72 => ?_) (fun c19_72 => ?_)
            · -- taken at 72
              refine g_iload_n hF d_X4_join_88 rfl 2 rfl ?_
              refine g_if_ne hF 113 d_X4_join_89 (by decide) rfl (fun c20_89 => ?_) (fun c20_89 => ?_)
              · -- taken at 89
                refine g_aload_n hF d_X4_join_113 rfl 0 rfl ?_
                refine g_iconst hF (v := 1) d_X4_join_114 (by decide) ?_
                refine g_put (v := 1) hF 5 obC_10 (by decide) m_605 rfl rfl rfl d_X4_join_115 ?_
                have kp : Keep [(10, 2), (10, 3), (10, 4), (10, 5), (10, 7), (10, 11)] [57, 58, 59] σ0 (upC σ 10 5 1) := keep_f kp (by decide)
                refine g_iload_n hF d_X4_join_118 rfl 2 rfl ?_
                refine g_ineg hF d_X4_join_119 ?_
                refine g_any (fun v21 => ?_)
                exact g_iret hF rfl d_X4_join_120 ⟨rfl, rfl, v21, rfl, ⟨inv, kp⟩⟩
              · -- not taken at 89
                refine g_aload_n hF d_X4_join_92 rfl 0 rfl ?_
                refine g_callV (As := []) (rest := []) hF (c_X4_settle a g r σ inv) (Nat.le_of_ble_eq_true rfl) mV_X4_settle m_1597 (recv_ob obC_10) rfl rfl (Nat.le_of_ble_eq_true rfl) d_X4_join_93 (k_v (fun σ22 ⟨iσ22, ik22⟩ => ?_)) (fun _ _ _ h => h.elim)
                have kp : Keep [(10, 2), (10, 3), (10, 4), (10, 5), (10, 7), (10, 11)] [57, 58, 59] σ0 σ22 := keep_c kp ik22 (by decide) (by decide)
                refine g_aload_n hF d_X4_join_96 rfl 0 rfl ?_
                refine g_aload_n hF d_X4_join_97 rfl 0 rfl ?_
                refine g_get (v := .ref (r 59)) hF 10 obC_10 (by decide) m_611 rfl d_X4_join_98 ?_
                refine g_iload_n hF d_X4_join_101 rfl 1 rfl ?_
                refine g_callSN (As := [.ref (r 59), .int x1]) (rest := [.ref (r 10)]) hF (c_at a g r σ22 arC_59 (by decide) x1) (Nat.le_of_ble_eq_true rfl) mS_X12_at nm_1552 rfl rfl (Nat.le_of_ble_eq_true rfl) d_X4_join_102 (k_ro (fun r23 => ?_))
                refine g_put (v := r23) hF 11 obC_10 (by decide) m_613 rfl rfl rfl d_X4_join_105 ?_
                have kp : Keep [(10, 2), (10, 3), (10, 4), (10, 5), (10, 7), (10, 11)] [57, 58, 59] σ0 (upC σ22 10 11 r23) := keep_f kp (by decide)
                refine g_aload_n hF d_X4_join_108 rfl 0 rfl ?_
                refine g_iconst hF (v := 1) d_X4_join_109 (by decide) ?_
                refine g_putZ (v := 1) hF 2 obC_10 (by decide) m_599 rfl rfl rfl (Or.inr rfl) d_X4_join_110 ?_
                have kp : Keep [(10, 2), (10, 3), (10, 4), (10, 5), (10, 7), (10, 11)] [57, 58, 59] σ0 (upC (upC σ22 10 11 r23) 10 2 1) := keep_f kp (by decide)
                refine g_aload_n hF d_X4_join_113 rfl 0 rfl ?_
                refine g_iconst hF (v := 1) d_X4_join_114 (by decide) ?_
                refine g_put (v := 1) hF 5 obC_10 (by decide) m_605 rfl rfl rfl d_X4_join_115 ?_
                have kp : Keep [(10, 2), (10, 3), (10, 4), (10, 5), (10, 7), (10, 11)] [57, 58, 59] σ0 (upC (upC (upC σ22 10 11 r23) 10 2 1) 10 5 1) := keep_f kp (by decide)
                refine g_iload_n hF d_X4_join_118 rfl 2 rfl ?_
                refine g_ineg hF d_X4_join_119 ?_
                refine g_any (fun v24 => ?_)
                exact g_iret hF rfl d_X4_join_120 ⟨rfl, rfl, v24, rfl, ⟨iσ22, kp⟩⟩
            · -- not taken at 72
              refine g_aload_n hF d_X4_join_75 rfl 0 rfl ?_
              refine g_callV (As := []) (rest := []) hF (c_X4_dataCells a g r σ inv) (Nat.le_of_ble_eq_true rfl) mV_X4_dataCells m_1593 (recv_ob obC_10) rfl rfl (Nat.le_of_ble_eq_true rfl) d_X4_join_76 (k_ro (fun r25 => ?_)) (fun _ _ _ h => h.elim)
              refine g_sipush hF (v := 16000) d_X4_join_79 (by decide) ?_
              refine g_icmp_le (yv := 16000) hF 88 d_X4_join_82 (by decide) rfl (by decide) (fun c26_82 => ?_) (fun c26_82 => ?_)
              · -- taken at 82
                refine g_iload_n hF d_X4_join_88 rfl 2 rfl ?_
                refine g_if_ne hF 113 d_X4_join_89 (by decide) rfl (fun c27_89 => ?_) (fun c27_89 => ?_)
                · -- taken at 89
                  refine g_aload_n hF d_X4_join_113 rfl 0 rfl ?_
                  refine g_iconst hF (v := 1) d_X4_join_114 (by decide) ?_
                  refine g_put (v := 1) hF 5 obC_10 (by decide) m_605 rfl rfl rfl d_X4_join_115 ?_
                  have kp : Keep [(10, 2), (10, 3), (10, 4), (10, 5), (10, 7), (10, 11)] [57, 58, 59] σ0 (upC σ 10 5 1) := keep_f kp (by decide)
                  refine g_iload_n hF d_X4_join_118 rfl 2 rfl ?_
                  refine g_ineg hF d_X4_join_119 ?_
                  refine g_any (fun v28 => ?_)
                  exact g_iret hF rfl d_X4_join_120 ⟨rfl, rfl, v28, rfl, ⟨inv, kp⟩⟩
                · -- not taken at 89
                  refine g_aload_n hF d_X4_join_92 rfl 0 rfl ?_
                  refine g_callV (As := []) (rest := []) hF (c_X4_settle a g r σ inv) (Nat.le_of_ble_eq_true rfl) mV_X4_settle m_1597 (recv_ob obC_10) rfl rfl (Nat.le_of_ble_eq_true rfl) d_X4_join_93 (k_v (fun σ29 ⟨iσ29, ik29⟩ => ?_)) (fun _ _ _ h => h.elim)
                  have kp : Keep [(10, 2), (10, 3), (10, 4), (10, 5), (10, 7), (10, 11)] [57, 58, 59] σ0 σ29 := keep_c kp ik29 (by decide) (by decide)
                  refine g_aload_n hF d_X4_join_96 rfl 0 rfl ?_
                  refine g_aload_n hF d_X4_join_97 rfl 0 rfl ?_
                  refine g_get (v := .ref (r 59)) hF 10 obC_10 (by decide) m_611 rfl d_X4_join_98 ?_
                  refine g_iload_n hF d_X4_join_101 rfl 1 rfl ?_
                  refine g_callSN (As := [.ref (r 59), .int x1]) (rest := [.ref (r 10)]) hF (c_at a g r σ29 arC_59 (by decide) x1) (Nat.le_of_ble_eq_true rfl) mS_X12_at nm_1552 rfl rfl (Nat.le_of_ble_eq_true rfl) d_X4_join_102 (k_ro (fun r30 => ?_))
                  refine g_put (v := r30) hF 11 obC_10 (by decide) m_613 rfl rfl rfl d_X4_join_105 ?_
                  have kp : Keep [(10, 2), (10, 3), (10, 4), (10, 5), (10, 7), (10, 11)] [57, 58, 59] σ0 (upC σ29 10 11 r30) := keep_f kp (by decide)
                  refine g_aload_n hF d_X4_join_108 rfl 0 rfl ?_
                  refine g_iconst hF (v := 1) d_X4_join_109 (by decide) ?_
                  refine g_putZ (v := 1) hF 2 obC_10 (by decide) m_599 rfl rfl rfl (Or.inr rfl) d_X4_join_110 ?_
                  have kp : Keep [(10, 2), (10, 3), (10, 4), (10, 5), (10, 7), (10, 11)] [57, 58, 59] σ0 (upC (upC σ29 10 11 r30) 10 2 1) := keep_f kp (by decide)
                  refine g_aload_n hF d_X4_join_113 rfl 0 rfl ?_
                  refine g_iconst hF (v := 1) d_X4_join_114 (by decide) ?_
                  refine g_put (v := 1) hF 5 obC_10 (by decide) m_605 rfl rfl rfl d_X4_join_115 ?_
                  have kp : Keep [(10, 2), (10, 3), (10, 4), (10, 5), (10, 7), (10, 11)] [57, 58, 59] σ0 (upC (upC (upC σ29 10 11 r30) 10 2 1) 10 5 1) := keep_f kp (by decide)
                  refine g_iload_n hF d_X4_join_118 rfl 2 rfl ?_
                  refine g_ineg hF d_X4_join_119 ?_
                  refine g_any (fun v31 => ?_)
                  exact g_iret hF rfl d_X4_join_120 ⟨rfl, rfl, v31, rfl, ⟨iσ29, kp⟩⟩
              · -- not taken at 82
                refine g_bipush hF (v := 35) d_X4_join_85 (by decide) ?_
                refine g_istore_n hF [(2, .int 35), (0, .ref (r 10)), (1, .int x1), (3, .int x3)] d_X4_join_87 rfl hnn (by decide) rfl ?_
                refine g_iload_n hF d_X4_join_88 rfl 0 rfl ?_
                refine g_if_ne (xv := 35) hF 113 d_X4_join_89 (by decide) (by decide) (fun _ => ?_) (fun c_89 => absurd c_89 (by decide))
                refine g_aload_n hF d_X4_join_113 rfl 1 rfl ?_
                refine g_iconst hF (v := 1) d_X4_join_114 (by decide) ?_
                refine g_put (v := 1) hF 5 obC_10 (by decide) m_605 rfl rfl rfl d_X4_join_115 ?_
                have kp : Keep [(10, 2), (10, 3), (10, 4), (10, 5), (10, 7), (10, 11)] [57, 58, 59] σ0 (upC σ 10 5 1) := keep_f kp (by decide)
                refine g_iload_n hF d_X4_join_118 rfl 0 rfl ?_
                refine g_ineg hF d_X4_join_119 ?_
                refine g_any (fun v32 => ?_)
                exact g_iret hF rfl d_X4_join_120 ⟨rfl, rfl, v32, rfl, ⟨inv, kp⟩⟩
          · -- not taken at 65
            refine g_bipush hF (v := 34) d_X4_join_68 (by decide) ?_
            refine g_istore_n hF [(2, .int 34), (0, .ref (r 10)), (1, .int x1), (3, .int x3)] d_X4_join_70 rfl hnn (by decide) rfl ?_
            refine g_iload_n hF d_X4_join_71 rfl 0 rfl ?_
            refine g_if_ne (xv := 34) hF 88 d_X4_join_72 (by decide) (by decide) (fun _ => ?_) (fun c_72 => absurd c_72 (by decide))
            refine g_iload_n hF d_X4_join_88 rfl 0 rfl ?_
            refine g_if_ne (xv := 34) hF 113 d_X4_join_89 (by decide) (by decide) (fun _ => ?_) (fun c_89 => absurd c_89 (by decide))
            refine g_aload_n hF d_X4_join_113 rfl 1 rfl ?_
            refine g_iconst hF (v := 1) d_X4_join_114 (by decide) ?_
            refine g_put (v := 1) hF 5 obC_10 (by decide) m_605 rfl rfl rfl d_X4_join_115 ?_
            have kp : Keep [(10, 2), (10, 3), (10, 4), (10, 5), (10, 7), (10, 11)] [57, 58, 59] σ0 (upC σ 10 5 1) := keep_f kp (by decide)
            refine g_iload_n hF d_X4_join_118 rfl 0 rfl ?_
            refine g_ineg hF d_X4_join_119 ?_
            refine g_any (fun v33 => ?_)
            exact g_iret hF rfl d_X4_join_120 ⟨rfl, rfl, v33, rfl, ⟨inv, kp⟩⟩
      · -- not taken at 37
        refine g_iload_n hF d_X4_join_40 rfl 2 rfl ?_
        refine g_if_ne hF 56 d_X4_join_41 (by decide) rfl (fun c34_41 => ?_) (fun c34_41 => ?_)
        · -- taken at 41
          refine g_iload_n hF d_X4_join_56 rfl 2 rfl ?_
          refine g_if_ne hF 71 d_X4_join_57 (by decide) rfl (fun c35_57 => ?_) (fun c35_57 => ?_)
          · -- taken at 57
            refine g_iload_n hF d_X4_join_71 rfl 2 rfl ?_
            refine g_if_ne hF 88 d_X4_join_72 (by decide) rfl (fun c36_72 => ?_) (fun c36_72 => ?_)
            · -- taken at 72
              refine g_iload_n hF d_X4_join_88 rfl 2 rfl ?_
              refine g_if_ne hF 113 d_X4_join_89 (by decide) rfl (fun c37_89 => ?_) (fun c37_89 => ?_)
              · -- taken at 89
                refine g_aload_n hF d_X4_join_113 rfl 0 rfl ?_
                refine g_iconst hF (v := 1) d_X4_join_114 (by decide) ?_
                refine g_put (v := 1) hF 5 obC_10 (by decide) m_605 rfl rfl rfl d_X4_join_115 ?_
                have kp : Keep [(10, 2), (10, 3), (10, 4), (10, 5), (10, 7), (10, 11)] [57, 58, 59] σ0 (upC σ 10 5 1) := keep_f kp (by decide)
                refine g_iload_n hF d_X4_join_118 rfl 2 rfl ?_
                refine g_ineg hF d_X4_join_119 ?_
                refine g_any (fun v38 => ?_)
                exact g_iret hF rfl d_X4_join_120 ⟨rfl, rfl, v38, rfl, ⟨inv, kp⟩⟩
              · -- not taken at 89
                refine g_aload_n hF d_X4_join_92 rfl 0 rfl ?_
                refine g_callV (As := []) (rest := []) hF (c_X4_settle a g r σ inv) (Nat.le_of_ble_eq_true rfl) mV_X4_settle m_1597 (recv_ob obC_10) rfl rfl (Nat.le_of_ble_eq_true rfl) d_X4_join_93 (k_v (fun σ39 ⟨iσ39, ik39⟩ => ?_)) (fun _ _ _ h => h.elim)
                have kp : Keep [(10, 2), (10, 3), (10, 4), (10, 5), (10, 7), (10, 11)] [57, 58, 59] σ0 σ39 := keep_c kp ik39 (by decide) (by decide)
                refine g_aload_n hF d_X4_join_96 rfl 0 rfl ?_
                refine g_aload_n hF d_X4_join_97 rfl 0 rfl ?_
                refine g_get (v := .ref (r 59)) hF 10 obC_10 (by decide) m_611 rfl d_X4_join_98 ?_
                refine g_iload_n hF d_X4_join_101 rfl 1 rfl ?_
                refine g_callSN (As := [.ref (r 59), .int x1]) (rest := [.ref (r 10)]) hF (c_at a g r σ39 arC_59 (by decide) x1) (Nat.le_of_ble_eq_true rfl) mS_X12_at nm_1552 rfl rfl (Nat.le_of_ble_eq_true rfl) d_X4_join_102 (k_ro (fun r40 => ?_))
                refine g_put (v := r40) hF 11 obC_10 (by decide) m_613 rfl rfl rfl d_X4_join_105 ?_
                have kp : Keep [(10, 2), (10, 3), (10, 4), (10, 5), (10, 7), (10, 11)] [57, 58, 59] σ0 (upC σ39 10 11 r40) := keep_f kp (by decide)
                refine g_aload_n hF d_X4_join_108 rfl 0 rfl ?_
                refine g_iconst hF (v := 1) d_X4_join_109 (by decide) ?_
                refine g_putZ (v := 1) hF 2 obC_10 (by decide) m_599 rfl rfl rfl (Or.inr rfl) d_X4_join_110 ?_
                have kp : Keep [(10, 2), (10, 3), (10, 4), (10, 5), (10, 7), (10, 11)] [57, 58, 59] σ0 (upC (upC σ39 10 11 r40) 10 2 1) := keep_f kp (by decide)
                refine g_aload_n hF d_X4_join_113 rfl 0 rfl ?_
                refine g_iconst hF (v := 1) d_X4_join_114 (by decide) ?_
                refine g_put (v := 1) hF 5 obC_10 (by decide) m_605 rfl rfl rfl d_X4_join_115 ?_
                have kp : Keep [(10, 2), (10, 3), (10, 4), (10, 5), (10, 7), (10, 11)] [57, 58, 59] σ0 (upC (upC (upC σ39 10 11 r40) 10 2 1) 10 5 1) := keep_f kp (by decide)
                refine g_iload_n hF d_X4_join_118 rfl 2 rfl ?_
                refine g_ineg hF d_X4_join_119 ?_
                refine g_any (fun v41 => ?_)
                exact g_iret hF rfl d_X4_join_120 ⟨rfl, rfl, v41, rfl, ⟨iσ39, kp⟩⟩
            · -- not taken at 72
              refine g_aload_n hF d_X4_join_75 rfl 0 rfl ?_
              refine g_callV (As := []) (rest := []) hF (c_X4_dataCells a g r σ inv) (Nat.le_of_ble_eq_true rfl) mV_X4_dataCells m_1593 (recv_ob obC_10) rfl rfl (Nat.le_of_ble_eq_true rfl) d_X4_join_76 (k_ro (fun r42 => ?_)) (fun _ _ _ h => h.elim)
              refine g_sipush hF (v := 16000) d_X4_join_79 (by decide) ?_
              refine g_icmp_le (yv := 16000) hF 88 d_X4_join_82 (by decide) rfl (by decide) (fun c43_82 => ?_) (fun c43_82 => ?_)
              · -- taken at 82
                refine g_iload_n hF d_X4_join_88 rfl 2 rfl ?_
                refine g_if_ne hF 113 d_X4_join_89 (by decide) rfl (fun c44_89 => ?_) (fun c44_89 => ?_)
                · -- taken at 89
                  refine g_aload_n hF d_X4_join_113 rfl 0 rfl ?_
                  refine g_iconst hF (v := 1) d_X4_join_114 (by decide) ?_
                  refine g_put (v := 1) hF 5 obC_10 (by decide) m_605 rfl rfl rfl d_X4_join_115 ?_
                  have kp : Keep [(10, 2), (10, 3), (10, 4), (10, 5), (10, 7), (10, 11)] [57, 58, 59] σ0 (upC σ 10 5 1) := keep_f kp (by decide)
                  refine g_iload_n hF d_X4_join_118 rfl 2 rfl ?_
                  refine g_ineg hF d_X4_join_119 ?_
                  refine g_any (fun v45 => ?_)
                  exact g_iret hF rfl d_X4_join_120 ⟨rfl, rfl, v45, rfl, ⟨inv, kp⟩⟩
                · -- not taken at 89
                  refine g_aload_n hF d_X4_join_92 rfl 0 rfl ?_
                  refine g_callV (As := []) (rest := []) hF (c_X4_settle a g r σ inv) (Nat.le_of_ble_eq_true rfl) mV_X4_settle m_1597 (recv_ob obC_10) rfl rfl (Nat.le_of_ble_eq_true rfl) d_X4_join_93 (k_v (fun σ46 ⟨iσ46, ik46⟩ => ?_)) (fun _ _ _ h => h.elim)
                  have kp : Keep [(10, 2), (10, 3), (10, 4), (10, 5), (10, 7), (10, 11)] [57, 58, 59] σ0 σ46 := keep_c kp ik46 (by decide) (by decide)
                  refine g_aload_n hF d_X4_join_96 rfl 0 rfl ?_
                  refine g_aload_n hF d_X4_join_97 rfl 0 rfl ?_
                  refine g_get (v := .ref (r 59)) hF 10 obC_10 (by decide) m_611 rfl d_X4_join_98 ?_
                  refine g_iload_n hF d_X4_join_101 rfl 1 rfl ?_
                  refine g_callSN (As := [.ref (r 59), .int x1]) (rest := [.ref (r 10)]) hF (c_at a g r σ46 arC_59 (by decide) x1) (Nat.le_of_ble_eq_true rfl) mS_X12_at nm_1552 rfl rfl (Nat.le_of_ble_eq_true rfl) d_X4_join_102 (k_ro (fun r47 => ?_))
                  refine g_put (v := r47) hF 11 obC_10 (by decide) m_613 rfl rfl rfl d_X4_join_105 ?_
                  have kp : Keep [(10, 2), (10, 3), (10, 4), (10, 5), (10, 7), (10, 11)] [57, 58, 59] σ0 (upC σ46 10 11 r47) := keep_f kp (by decide)
                  refine g_aload_n hF d_X4_join_108 rfl 0 rfl ?_
                  refine g_iconst hF (v := 1) d_X4_join_109 (by decide) ?_
                  refine g_putZ (v := 1) hF 2 obC_10 (by decide) m_599 rfl rfl rfl (Or.inr rfl) d_X4_join_110 ?_
                  have kp : Keep [(10, 2), (10, 3), (10, 4), (10, 5), (10, 7), (10, 11)] [57, 58, 59] σ0 (upC (upC σ46 10 11 r47) 10 2 1) := keep_f kp (by decide)
                  refine g_aload_n hF d_X4_join_113 rfl 0 rfl ?_
                  refine g_iconst hF (v := 1) d_X4_join_114 (by decide) ?_
                  refine g_put (v := 1) hF 5 obC_10 (by decide) m_605 rfl rfl rfl d_X4_join_115 ?_
                  have kp : Keep [(10, 2), (10, 3), (10, 4), (10, 5), (10, 7), (10, 11)] [57, 58, 59] σ0 (upC (upC (upC σ46 10 11 r47) 10 2 1) 10 5 1) := keep_f kp (by decide)
                  refine g_iload_n hF d_X4_join_118 rfl 2 rfl ?_
                  refine g_ineg hF d_X4_join_119 ?_
                  refine g_any (fun v48 => ?_)
                  exact g_iret hF rfl d_X4_join_120 ⟨rfl, rfl, v48, rfl, ⟨iσ46, kp⟩⟩
              · -- not taken at 82
                refine g_bipush hF (v := 35) d_X4_join_85 (by decide) ?_
                refine g_istore_n hF [(2, .int 35), (0, .ref (r 10)), (1, .int x1), (3, .int x3)] d_X4_join_87 rfl hnn (by decide) rfl ?_
                refine g_iload_n hF d_X4_join_88 rfl 0 rfl ?_
                refine g_if_ne (xv := 35) hF 113 d_X4_join_89 (by decide) (by decide) (fun _ => ?_) (fun c_89 => absurd c_89 (by decide))
                refine g_aload_n hF d_X4_join_113 rfl 1 rfl ?_
                refine g_iconst hF (v := 1) d_X4_join_114 (by decide) ?_
                refine g_put (v := 1) hF 5 obC_10 (by decide) m_605 rfl rfl rfl d_X4_join_115 ?_
                have kp : Keep [(10, 2), (10, 3), (10, 4), (10, 5), (10, 7), (10, 11)] [57, 58, 59] σ0 (upC σ 10 5 1) := keep_f kp (by decide)
                refine g_iload_n hF d_X4_join_118 rfl 0 rfl ?_
                refine g_ineg hF d_X4_join_119 ?_
                refine g_any (fun v49 => ?_)
                exact g_iret hF rfl d_X4_join_120 ⟨rfl, rfl, v49, rfl, ⟨inv, kp⟩⟩
          · -- not taken at 57
            refine g_aload_n hF d_X4_join_60 rfl 0 rfl ?_
            refine g_iload_n hF d_X4_join_61 rfl 1 rfl ?_
            refine g_callV (As := [.int x1]) (rest := []) hF (c_X4_isMain a g r σ x1 inv) (Nat.le_of_ble_eq_true rfl) mV_X4_isMain m_1589 (recv_ob obC_10) rfl rfl (Nat.le_of_ble_eq_true rfl) d_X4_join_62 (k_roz (fun r50 hz50 => ?_)) (fun _ _ _ h => h.elim)
            refine g_if_ne hF 71 d_X4_join_65 (by decide) rfl (fun c51_65 => ?_) (fun c51_65 => ?_)
            · -- taken at 65
              refine g_iload_n hF d_X4_join_71 rfl 2 rfl ?_
              refine g_if_ne hF 88 d_X4_join_72 (by decide) rfl (fun c52_72 => ?_) (fun c52_72 => ?_)
              · -- taken at 72
                refine g_iload_n hF d_X4_join_88 rfl 2 rfl ?_
                refine g_if_ne hF 113 d_X4_join_89 (by decide) rfl (fun c53_89 => ?_) (fun c53_89 => ?_)
                · -- taken at 89
                  refine g_aload_n hF d_X4_join_113 rfl 0 rfl ?_
                  refine g_iconst hF (v := 1) d_X4_join_114 (by decide) ?_
                  refine g_put (v := 1) hF 5 obC_10 (by decide) m_605 rfl rfl rfl d_X4_join_115 ?_
                  have kp : Keep [(10, 2), (10, 3), (10, 4), (10, 5), (10, 7), (10, 11)] [57, 58, 59] σ0 (upC σ 10 5 1) := keep_f kp (by decide)
                  refine g_iload_n hF d_X4_join_118 rfl 2 rfl ?_
                  refine g_ineg hF d_X4_join_119 ?_
                  refine g_any (fun v54 => ?_)
                  exact g_iret hF rfl d_X4_join_120 ⟨rfl, rfl, v54, rfl, ⟨inv, kp⟩⟩
                · -- not taken at 89
                  refine g_aload_n hF d_X4_join_92 rfl 0 rfl ?_
                  refine g_callV (As := []) (rest := []) hF (c_X4_settle a g r σ inv) (Nat.le_of_ble_eq_true rfl) mV_X4_settle m_1597 (recv_ob obC_10) rfl rfl (Nat.le_of_ble_eq_true rfl) d_X4_join_93 (k_v (fun σ55 ⟨iσ55, ik55⟩ => ?_)) (fun _ _ _ h => h.elim)
                  have kp : Keep [(10, 2), (10, 3), (10, 4), (10, 5), (10, 7), (10, 11)] [57, 58, 59] σ0 σ55 := keep_c kp ik55 (by decide) (by decide)
                  refine g_aload_n hF d_X4_join_96 rfl 0 rfl ?_
                  refine g_aload_n hF d_X4_join_97 rfl 0 rfl ?_
                  refine g_get (v := .ref (r 59)) hF 10 obC_10 (by decide) m_611 rfl d_X4_join_98 ?_
                  refine g_iload_n hF d_X4_join_101 rfl 1 rfl ?_
                  refine g_callSN (As := [.ref (r 59), .int x1]) (rest := [.ref (r 10)]) hF (c_at a g r σ55 arC_59 (by decide) x1) (Nat.le_of_ble_eq_true rfl) mS_X12_at nm_1552 rfl rfl (Nat.le_of_ble_eq_true rfl) d_X4_join_102 (k_ro (fun r56 => ?_))
                  refine g_put (v := r56) hF 11 obC_10 (by decide) m_613 rfl rfl rfl d_X4_join_105 ?_
                  have kp : Keep [(10, 2), (10, 3), (10, 4), (10, 5), (10, 7), (10, 11)] [57, 58, 59] σ0 (upC σ55 10 11 r56) := keep_f kp (by decide)
                  refine g_aload_n hF d_X4_join_108 rfl 0 rfl ?_
                  refine g_iconst hF (v := 1) d_X4_join_109 (by decide) ?_
                  refine g_putZ (v := 1) hF 2 obC_10 (by decide) m_599 rfl rfl rfl (Or.inr rfl) d_X4_join_110 ?_
                  have kp : Keep [(10, 2), (10, 3), (10, 4), (10, 5), (10, 7), (10, 11)] [57, 58, 59] σ0 (upC (upC σ55 10 11 r56) 10 2 1) := keep_f kp (by decide)
                  refine g_aload_n hF d_X4_join_113 rfl 0 rfl ?_
                  refine g_iconst hF (v := 1) d_X4_join_114 (by decide) ?_
                  refine g_put (v := 1) hF 5 obC_10 (by decide) m_605 rfl rfl rfl d_X4_join_115 ?_
                  have kp : Keep [(10, 2), (10, 3), (10, 4), (10, 5), (10, 7), (10, 11)] [57, 58, 59] σ0 (upC (upC (upC σ55 10 11 r56) 10 2 1) 10 5 1) := keep_f kp (by decide)
                  refine g_iload_n hF d_X4_join_118 rfl 2 rfl ?_
                  refine g_ineg hF d_X4_join_119 ?_
                  refine g_any (fun v57 => ?_)
                  exact g_iret hF rfl d_X4_join_120 ⟨rfl, rfl, v57, rfl, ⟨iσ55, kp⟩⟩
              · -- not taken at 72
                refine g_aload_n hF d_X4_join_75 rfl 0 rfl ?_
                refine g_callV (As := []) (rest := []) hF (c_X4_dataCells a g r σ inv) (Nat.le_of_ble_eq_true rfl) mV_X4_dataCells m_1593 (recv_ob obC_10) rfl rfl (Nat.le_of_ble_eq_true rfl) d_X4_join_76 (k_ro (fun r58 => ?_)) (fun _ _ _ h => h.elim)
                refine g_sipush hF (v := 16000) d_X4_join_79 (by decide) ?_
                refine g_icmp_le (yv := 16000) hF 88 d_X4_join_82 (by decide) rfl (by decide) (fun c59_82 => ?_) (fun c59_82 => ?_)
                · -- taken at 82
                  refine g_iload_n hF d_X4_join_88 rfl 2 rfl ?_
                  refine g_if_ne hF 113 d_X4_join_89 (by decide) rfl (fun c60_89 => ?_) (fun c60_89 => ?_)
                  · -- taken at 89
                    refine g_aload_n hF d_X4_join_113 rfl 0 rfl ?_
                    refine g_iconst hF (v := 1) d_X4_join_114 (by decide) ?_
                    refine g_put (v := 1) hF 5 obC_10 (by decide) m_605 rfl rfl rfl d_X4_join_115 ?_
                    have kp : Keep [(10, 2), (10, 3), (10, 4), (10, 5), (10, 7), (10, 11)] [57, 58, 59] σ0 (upC σ 10 5 1) := keep_f kp (by decide)
                    refine g_iload_n hF d_X4_join_118 rfl 2 rfl ?_
                    refine g_ineg hF d_X4_join_119 ?_
                    refine g_any (fun v61 => ?_)
                    exact g_iret hF rfl d_X4_join_120 ⟨rfl, rfl, v61, rfl, ⟨inv, kp⟩⟩
                  · -- not taken at 89
                    refine g_aload_n hF d_X4_join_92 rfl 0 rfl ?_
                    refine g_callV (As := []) (rest := []) hF (c_X4_settle a g r σ inv) (Nat.le_of_ble_eq_true rfl) mV_X4_settle m_1597 (recv_ob obC_10) rfl rfl (Nat.le_of_ble_eq_true rfl) d_X4_join_93 (k_v (fun σ62 ⟨iσ62, ik62⟩ => ?_)) (fun _ _ _ h => h.elim)
                    have kp : Keep [(10, 2), (10, 3), (10, 4), (10, 5), (10, 7), (10, 11)] [57, 58, 59] σ0 σ62 := keep_c kp ik62 (by decide) (by decide)
                    refine g_aload_n hF d_X4_join_96 rfl 0 rfl ?_
                    refine g_aload_n hF d_X4_join_97 rfl 0 rfl ?_
                    refine g_get (v := .ref (r 59)) hF 10 obC_10 (by decide) m_611 rfl d_X4_join_98 ?_
                    refine g_iload_n hF d_X4_join_101 rfl 1 rfl ?_
                    refine g_callSN (As := [.ref (r 59), .int x1]) (rest := [.ref (r 10)]) hF (c_at a g r σ62 arC_59 (by decide) x1) (Nat.le_of_ble_eq_true rfl) mS_X12_at nm_1552 rfl rfl (Nat.le_of_ble_eq_true rfl) d_X4_join_102 (k_ro (fun r63 => ?_))
                    refine g_put (v := r63) hF 11 obC_10 (by decide) m_613 rfl rfl rfl d_X4_join_105 ?_
                    have kp : Keep [(10, 2), (10, 3), (10, 4), (10, 5), (10, 7), (10, 11)] [57, 58, 59] σ0 (upC σ62 10 11 r63) := keep_f kp (by decide)
                    refine g_aload_n hF d_X4_join_108 rfl 0 rfl ?_
                    refine g_iconst hF (v := 1) d_X4_join_109 (by decide) ?_
                    refine g_putZ (v := 1) hF 2 obC_10 (by decide) m_599 rfl rfl rfl (Or.inr rfl) d_X4_join_110 ?_
                    have kp : Keep [(10, 2), (10, 3), (10, 4), (10, 5), (10, 7), (10, 11)] [57, 58, 59] σ0 (upC (upC σ62 10 11 r63) 10 2 1) := keep_f kp (by decide)
                    refine g_aload_n hF d_X4_join_113 rfl 0 rfl ?_
                    refine g_iconst hF (v := 1) d_X4_join_114 (by decide) ?_
                    refine g_put (v := 1) hF 5 obC_10 (by decide) m_605 rfl rfl rfl d_X4_join_115 ?_
                    have kp : Keep [(10, 2), (10, 3), (10, 4), (10, 5), (10, 7), (10, 11)] [57, 58, 59] σ0 (upC (upC (upC σ62 10 11 r63) 10 2 1) 10 5 1) := keep_f kp (by decide)
                    refine g_iload_n hF d_X4_join_118 rfl 2 rfl ?_
                    refine g_ineg hF d_X4_join_119 ?_
                    refine g_any (fun v64 => ?_)
                    exact g_iret hF rfl d_X4_join_120 ⟨rfl, rfl, v64, rfl, ⟨iσ62, kp⟩⟩
                · -- not taken at 82
                  refine g_bipush hF (v := 35) d_X4_join_85 (by decide) ?_
                  refine g_istore_n hF [(2, .int 35), (0, .ref (r 10)), (1, .int x1), (3, .int x3)] d_X4_join_87 rfl hnn (by decide) rfl ?_
                  refine g_iload_n hF d_X4_join_88 rfl 0 rfl ?_
                  refine g_if_ne (xv := 35) hF 113 d_X4_join_89 (by decide) (by decide) (fun _ => ?_) (fun c_89 => absurd c_89 (by decide))
                  refine g_aload_n hF d_X4_join_113 rfl 1 rfl ?_
                  refine g_iconst hF (v := 1) d_X4_join_114 (by decide) ?_
                  refine g_put (v := 1) hF 5 obC_10 (by decide) m_605 rfl rfl rfl d_X4_join_115 ?_
                  have kp : Keep [(10, 2), (10, 3), (10, 4), (10, 5), (10, 7), (10, 11)] [57, 58, 59] σ0 (upC σ 10 5 1) := keep_f kp (by decide)
                  refine g_iload_n hF d_X4_join_118 rfl 0 rfl ?_
                  refine g_ineg hF d_X4_join_119 ?_
                  refine g_any (fun v65 => ?_)
                  exact g_iret hF rfl d_X4_join_120 ⟨rfl, rfl, v65, rfl, ⟨inv, kp⟩⟩
            · -- not taken at 65
              refine g_bipush hF (v := 34) d_X4_join_68 (by decide) ?_
              refine g_istore_n hF [(2, .int 34), (0, .ref (r 10)), (1, .int x1), (3, .int x3)] d_X4_join_70 rfl hnn (by decide) rfl ?_
              refine g_iload_n hF d_X4_join_71 rfl 0 rfl ?_
              refine g_if_ne (xv := 34) hF 88 d_X4_join_72 (by decide) (by decide) (fun _ => ?_) (fun c_72 => absurd c_72 (by decide))
              refine g_iload_n hF d_X4_join_88 rfl 0 rfl ?_
              refine g_if_ne (xv := 34) hF 113 d_X4_join_89 (by decide) (by decide) (fun _ => ?_) (fun c_89 => absurd c_89 (by decide))
              refine g_aload_n hF d_X4_join_113 rfl 1 rfl ?_
              refine g_iconst hF (v := 1) d_X4_join_114 (by decide) ?_
              refine g_put (v := 1) hF 5 obC_10 (by decide) m_605 rfl rfl rfl d_X4_join_115 ?_
              have kp : Keep [(10, 2), (10, 3), (10, 4), (10, 5), (10, 7), (10, 11)] [57, 58, 59] σ0 (upC σ 10 5 1) := keep_f kp (by decide)
              refine g_iload_n hF d_X4_join_118 rfl 0 rfl ?_
              refine g_ineg hF d_X4_join_119 ?_
              refine g_any (fun v66 => ?_)
              exact g_iret hF rfl d_X4_join_120 ⟨rfl, rfl, v66, rfl, ⟨inv, kp⟩⟩
        · -- not taken at 41
          refine g_aload_n hF d_X4_join_44 rfl 0 rfl ?_
          refine g_iload_n hF d_X4_join_45 rfl 3 rfl ?_
          refine g_callV (As := [.int x3]) (rest := []) hF (c_X4_look a g r σ x3 inv) (Nat.le_of_ble_eq_true rfl) mV_X4_look m_1572 (recv_ob obC_10) rfl rfl (Nat.le_of_ble_eq_true rfl) d_X4_join_46 (k_i (fun r67 σ67 ⟨iσ67, ik67⟩ => ?_)) (fun _ _ _ h => h.elim)
          have kp : Keep [(10, 2), (10, 3), (10, 4), (10, 5), (10, 7), (10, 11)] [57, 58, 59] σ0 σ67 := keep_c kp ik67 (by decide) (by decide)
          refine g_istore_n hF [(2, .int r67), (0, .ref (r 10)), (1, .int x1), (3, .int x3)] d_X4_join_49 rfl hnn (by decide) rfl ?_
          refine g_iinc hF (x3 + 1) [(3, .int (x3 + 1)), (2, .int r67), (0, .ref (r 10)), (1, .int x1)] d_X4_join_50 3 rfl rfl hnn (by decide) rfl ?_
          refine g_goto hF 34 d_X4_join_53 (by decide) ?_
          exact g_sub (L' := [(0, .ref (r 10)), (1, .int x1), (2, .int r67), (3, .int (x3 + 1))]) [2, 3, 1, 0] rfl (ih34 _ (by show upm (x3 + 1) < _; have hN := N34; unfold upm at hN ⊢; have e0 := s_rng x3; have e1 : (1 : Int32).toInt = 1 := (by decide); obtain ⟨k2, e2⟩ := s_add x3 (1 : Int32); have e2a := s_rng (x3 + 1); have e4 : (33 : Int32).toInt = 33 := (by decide); omega) σ67 x1 r67 (x3 + 1) rfl iσ67 kp)
  have kp : Keep [(10, 2), (10, 3), (10, 4), (10, 5), (10, 7), (10, 11)] [57, 58, 59] σ0 σ0 := keep_rf
  refine g_aload_n hF d_X4_join_0 rfl 0 rfl ?_
  refine g_iconst hF (v := (-1)) d_X4_join_1 (by decide) ?_
  refine g_put (v := (-1)) hF 3 obC_10 (by decide) m_601 rfl rfl rfl d_X4_join_2 ?_
  have kp : Keep [(10, 2), (10, 3), (10, 4), (10, 5), (10, 7), (10, 11)] [57, 58, 59] σ0 (upC σ0 10 3 (-1)) := keep_f kp (by decide)
  refine g_aload_n hF d_X4_join_5 rfl 0 rfl ?_
  refine g_iconst hF (v := (-1)) d_X4_join_6 (by decide) ?_
  refine g_put (v := (-1)) hF 4 obC_10 (by decide) m_603 rfl rfl rfl d_X4_join_7 ?_
  have kp : Keep [(10, 2), (10, 3), (10, 4), (10, 5), (10, 7), (10, 11)] [57, 58, 59] σ0 (upC (upC σ0 10 3 (-1)) 10 4 (-1)) := keep_f kp (by decide)
  refine g_aload_n hF d_X4_join_10 rfl 0 rfl ?_
  refine g_aload_n hF d_X4_join_11 rfl 0 rfl ?_
  refine g_get (v := .ref (r 56)) hF 6 obC_10 (by decide) m_606 rfl d_X4_join_12 ?_
  refine g_aload_n hF d_X4_join_15 rfl 0 rfl ?_
  refine g_get (v := .int (σ0 10 5)) hF 5 obC_10 (by decide) m_605 rfl d_X4_join_16 ?_
  refine g_aload_n hF d_X4_join_19 rfl 0 rfl ?_
  refine g_get (v := .ref (r 55)) hF 1 obC_10 (by decide) m_598 rfl d_X4_join_20 ?_
  refine g_iconst hF (v := 0) d_X4_join_23 (by decide) ?_
  refine g_iconst hF (v := 4) d_X4_join_24 (by decide) ?_
  refine g_callV (As := [.ref (r 56), .int (σ0 10 5), .ref (r 55), .int 0, .int 4]) (rest := []) hF (c_X4_find_r10_r56_r55 a g r (upC (upC σ0 10 3 (-1)) 10 4 (-1)) (σ0 10 5) (0 : Int32) (4 : Int32) i0) (Nat.le_of_ble_eq_true rfl) mV_X4_find m_1562 (recv_ob obC_10) rfl rfl (Nat.le_of_ble_eq_true rfl) d_X4_join_25 (k_ro (fun r68 => ?_)) (fun _ _ _ h => h.elim)
  refine g_istore_n hF [(1, .int r68), (0, .ref (r 10))] d_X4_join_28 rfl hnn (by decide) rfl ?_
  refine g_iconst hF (v := 0) d_X4_join_29 (by decide) ?_
  refine g_istore_n hF [(2, .int 0), (1, .int r68), (0, .ref (r 10))] d_X4_join_30 rfl hnn (by decide) rfl ?_
  refine g_bipush hF (v := 31) d_X4_join_31 (by decide) ?_
  refine g_istore_n hF [(3, .int 31), (2, .int 0), (1, .int r68), (0, .ref (r 10))] d_X4_join_33 rfl hnn (by decide) rfl ?_
  exact g_sub (L' := [(0, .ref (r 10)), (1, .int r68), (2, .int 0), (3, .int 31)]) [3, 2, 1, 0] rfl (b34 _ (upC (upC σ0 10 3 (-1)) 10 4 (-1)) r68 (0 : Int32) (31 : Int32) rfl i0 kp)
set_option maxHeartbeats 4000000 in
set_option maxRecDepth 100000 in
theorem c_X12_link (a : Nat → Nat) (g : Nat → Nat → Int32) (r : Nat → Nat) (σ0 : St) (i0 : Inv σ0) (l : Launch) (D : va_G) (cy : Nat → ClassId) : Ct l D cy SC r (EC a g) y_X12_link (Cond.code y_X12_link b_X12_link 1 (some .int)) 7 [.ref (r 0)] σ0 Z0 [] (QI (fun _ σ9 => (Inv σ9 ∧ Keep [(10, 2), (10, 3), (10, 4), (10, 5), (10, 7), (10, 11)] [57, 58, 59] σ0 σ9))) QF := by
  refine Ct_of (EC_ok a g) (by decide) (Nat.le_of_ble_eq_true rfl) (by decide) (fun X hnn hF => ?_)
  show G SC r X σ0 Z0 [] [(0, .ref (r 0))] [] 0
  have kp : Keep [(10, 2), (10, 3), (10, 4), (10, 5), (10, 7), (10, 11)] [57, 58, 59] σ0 σ0 := keep_rf
  refine g_aload_n hF d_X12_link_0 rfl 0 rfl ?_
  refine g_get (v := .ref (r 10)) hF 12 obC_0 (by decide) m_747 rfl d_X12_link_1 ?_
  refine g_callVN (As := []) (rest := []) hF (c_X4_join a g r σ0 i0) (Nat.le_of_ble_eq_true rfl) mV_X4_join nm_1558 (recv_ob obC_10) rfl rfl (Nat.le_of_ble_eq_true rfl) d_X12_link_4 (k_i (fun r1 σ1 ⟨iσ1, ik1⟩ => ?_))
  have kp : Keep [(10, 2), (10, 3), (10, 4), (10, 5), (10, 7), (10, 11)] [57, 58, 59] σ0 σ1 := keep_c kp ik1 (by decide) (by decide)
  exact g_iret hF rfl d_X12_link_7 ⟨rfl, rfl, r1, rfl, ⟨iσ1, kp⟩⟩
