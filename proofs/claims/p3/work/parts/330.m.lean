set_option maxHeartbeats 4000000 in
set_option maxRecDepth 100000 in
theorem c_X7_walk (a : Nat → Nat) (g : Nat → Nat → Int32) (r : Nat → Nat) (σ0 : St) (a1 : Int32) (hnm : (σ0 3 3).toInt < 0 ∧ GI σ0) (i0 : Inv σ0) (l : Launch) (D : va_G) (cy : Nat → ClassId) : Ct l D cy SC r (EC a g) y_X7_walk (Cond.code y_X7_walk b_X7_walk 6 none) 7 [.ref (r 9), .int a1] σ0 Z0 [] (QV (fun σ9 => (Inv σ9 ∧ Keep [(4, 1), (5, 1), (5, 7), (5, 9), (6, 2), (6, 3), (6, 4), (6, 5), (6, 6), (6, 7), (6, 10), (6, 15), (6, 17), (7, 7), (8, 6), (8, 7), (8, 8), (8, 9), (8, 10), (8, 11), (8, 12), (8, 13), (8, 14), (8, 15), (8, 16), (9, 5)] [17, 24, 25, 26, 27, 28, 29, 30, 31, 32, 33, 38, 39, 40, 41, 42, 43, 44, 45, 48, 49, 50, 51, 52, 53, 54] σ0 σ9))) QF := by
  refine Ct_of (EC_ok a g) (by decide) (Nat.le_of_ble_eq_true rfl) (by decide) (fun X hnn hF => ?_)
  show G SC r X σ0 Z0 [] [(0, .ref (r 9)), (1, .int a1)] [] 0
  have b38 : ∀ (N : Nat) (σ : St) (x1 : Int32) (x2 : Int32) (x3 : Int32) , dnm x3 = N → Inv σ → Keep [(4, 1), (5, 1), (5, 7), (5, 9), (6, 2), (6, 3), (6, 4), (6, 5), (6, 6), (6, 7), (6, 10), (6, 15), (6, 17), (7, 7), (8, 6), (8, 7), (8, 8), (8, 9), (8, 10), (8, 11), (8, 12), (8, 13), (8, 14), (8, 15), (8, 16), (9, 5)] [17, 24, 25, 26, 27, 28, 29, 30, 31, 32, 33, 38, 39, 40, 41, 42, 43, 44, 45, 48, 49, 50, 51, 52, 53, 54] σ0 σ → (x3.toInt - 40000 ≤ (σ 6 17).toInt ∧ (σ 6 17).toInt ≤ 40000 - x3.toInt ∧ x3.toInt ≤ 32100 ∧ (σ 6 10).toInt ≤ 40000 - x3.toInt) → G SC r X σ Z0 [] [(0, .ref (r 9)), (1, .int x1), (2, .int x2), (3, .int x3)] [] 38 := by
    intro M38
    induction M38 using Nat.strongRecOn with
    | _ M38 ih38 =>
      intro σ x1 x2 x3 N38 inv kp hj
      refine g_iload_n hF d_X7_walk_38 rfl 3 rfl ?_
      refine g_if_le hF 176 d_X7_walk_39 (by decide) rfl (fun c1_39 => ?_) (fun c1_39 => ?_)
      · -- taken at 39
        refine g_aload_n hF d_X7_walk_176 rfl 0 rfl ?_
        refine g_get (v := .ref (r 6)) hF 1 obC_9 (by decide) m_554 rfl d_X7_walk_177 ?_
        refine g_callVN (As := []) (rest := []) hF (c_X11_finish a g r σ inv) (Nat.le_of_ble_eq_true rfl) mV_X11_finish nm_1482 (recv_ob obC_6) rfl rfl (Nat.le_of_ble_eq_true rfl) d_X7_walk_180 (k_v (fun σ2 ⟨iσ2, ik2⟩ => ?_))
        have kp : Keep [(4, 1), (5, 1), (5, 7), (5, 9), (6, 2), (6, 3), (6, 4), (6, 5), (6, 6), (6, 7), (6, 10), (6, 15), (6, 17), (7, 7), (8, 6), (8, 7), (8, 8), (8, 9), (8, 10), (8, 11), (8, 12), (8, 13), (8, 14), (8, 15), (8, 16), (9, 5)] [17, 24, 25, 26, 27, 28, 29, 30, 31, 32, 33, 38, 39, 40, 41, 42, 43, 44, 45, 48, 49, 50, 51, 52, 53, 54] σ0 σ2 := keep_c kp ik2 (by decide) (by decide)
        exact g_vret hF rfl d_X7_walk_183 ⟨rfl, rfl, rfl, ⟨iσ2, kp⟩⟩
      · -- not taken at 39
        refine g_iload_n hF d_X7_walk_42 rfl 2 rfl ?_
        refine g_aload_n hF d_X7_walk_43 rfl 0 rfl ?_
        refine g_get (v := .ref (r 3)) hF 0 obC_9 (by decide) m_553 rfl d_X7_walk_44 ?_
        refine g_getN (v := .int (σ 3 4)) hF 4 obC_3 (by decide) nm_100 rfl d_X7_walk_47 ?_
        refine g_icmp_ge hF 176 d_X7_walk_50 (by decide) rfl rfl (fun c3_50 => ?_) (fun c3_50 => ?_)
        · -- taken at 50
          refine g_aload_n hF d_X7_walk_176 rfl 0 rfl ?_
          refine g_get (v := .ref (r 6)) hF 1 obC_9 (by decide) m_554 rfl d_X7_walk_177 ?_
          refine g_callVN (As := []) (rest := []) hF (c_X11_finish a g r σ inv) (Nat.le_of_ble_eq_true rfl) mV_X11_finish nm_1482 (recv_ob obC_6) rfl rfl (Nat.le_of_ble_eq_true rfl) d_X7_walk_180 (k_v (fun σ4 ⟨iσ4, ik4⟩ => ?_))
          have kp : Keep [(4, 1), (5, 1), (5, 7), (5, 9), (6, 2), (6, 3), (6, 4), (6, 5), (6, 6), (6, 7), (6, 10), (6, 15), (6, 17), (7, 7), (8, 6), (8, 7), (8, 8), (8, 9), (8, 10), (8, 11), (8, 12), (8, 13), (8, 14), (8, 15), (8, 16), (9, 5)] [17, 24, 25, 26, 27, 28, 29, 30, 31, 32, 33, 38, 39, 40, 41, 42, 43, 44, 45, 48, 49, 50, 51, 52, 53, 54] σ0 σ4 := keep_c kp ik4 (by decide) (by decide)
          exact g_vret hF rfl d_X7_walk_183 ⟨rfl, rfl, rfl, ⟨iσ4, kp⟩⟩
        · -- not taken at 50
          refine g_aload_n hF d_X7_walk_53 rfl 0 rfl ?_
          refine g_get (v := .ref (r 6)) hF 1 obC_9 (by decide) m_554 rfl d_X7_walk_54 ?_
          refine g_getN (v := .int (σ 6 3)) hF 3 obC_6 (by decide) nm_315 rfl d_X7_walk_57 ?_
          refine g_if_ne hF 176 d_X7_walk_60 (by decide) rfl (fun c5_60 => ?_) (fun c5_60 => ?_)
          · -- taken at 60
            refine g_aload_n hF d_X7_walk_176 rfl 0 rfl ?_
            refine g_get (v := .ref (r 6)) hF 1 obC_9 (by decide) m_554 rfl d_X7_walk_177 ?_
            refine g_callVN (As := []) (rest := []) hF (c_X11_finish a g r σ inv) (Nat.le_of_ble_eq_true rfl) mV_X11_finish nm_1482 (recv_ob obC_6) rfl rfl (Nat.le_of_ble_eq_true rfl) d_X7_walk_180 (k_v (fun σ6 ⟨iσ6, ik6⟩ => ?_))
            have kp : Keep [(4, 1), (5, 1), (5, 7), (5, 9), (6, 2), (6, 3), (6, 4), (6, 5), (6, 6), (6, 7), (6, 10), (6, 15), (6, 17), (7, 7), (8, 6), (8, 7), (8, 8), (8, 9), (8, 10), (8, 11), (8, 12), (8, 13), (8, 14), (8, 15), (8, 16), (9, 5)] [17, 24, 25, 26, 27, 28, 29, 30, 31, 32, 33, 38, 39, 40, 41, 42, 43, 44, 45, 48, 49, 50, 51, 52, 53, 54] σ0 σ6 := keep_c kp ik6 (by decide) (by decide)
            exact g_vret hF rfl d_X7_walk_183 ⟨rfl, rfl, rfl, ⟨iσ6, kp⟩⟩
          · -- not taken at 60
            refine g_aload_n hF d_X7_walk_63 rfl 0 rfl ?_
            refine g_get (v := .ref (r 3)) hF 0 obC_9 (by decide) m_553 rfl d_X7_walk_64 ?_
            refine g_getN (v := .ref (r 18)) hF 5 obC_3 (by decide) nm_103 rfl d_X7_walk_67 ?_
            refine g_iload_n hF d_X7_walk_70 rfl 2 rfl ?_
            refine g_callSN (As := [.ref (r 18), .int x2]) (rest := []) hF (c_at a g r σ arC_18 (by decide) x2) (Nat.le_of_ble_eq_true rfl) mS_X12_at nm_1053 rfl rfl (Nat.le_of_ble_eq_true rfl) d_X7_walk_71 (k_rop (fun r7 hr7 => ?_))
            have hs7 := hr7
            refine g_istore hF [(4, .int r7), (0, .ref (r 9)), (1, .int x1), (2, .int x2), (3, .int x3)] d_X7_walk_74 hnn (by decide) rfl ?_
            refine g_iload hF d_X7_walk_76 0 rfl ?_
            refine g_bipush hF (v := 20) d_X7_walk_78 (by decide) ?_
            refine g_icmp_ge (yv := 20) hF 94 d_X7_walk_80 (by decide) rfl (by decide) (fun c8_80 => ?_) (fun c8_80 => ?_)
            · -- taken at 80
              refine g_iload hF d_X7_walk_94 0 rfl ?_
              refine g_bipush hF (v := 40) d_X7_walk_96 (by decide) ?_
              refine g_icmp_ge (yv := 40) hF 111 d_X7_walk_98 (by decide) rfl (by decide) (fun c9_98 => ?_) (fun c9_98 => ?_)
              · -- taken at 98
                refine g_iload hF d_X7_walk_111 0 rfl ?_
                refine g_bipush hF (v := 40) d_X7_walk_113 (by decide) ?_
                refine g_icmp_eq (yv := 40) hF 131 d_X7_walk_115 (by decide) rfl (by decide) (fun c10_115 => ?_) (fun c10_115 => ?_)
                · -- taken at 115
                  refine g_aload_n hF d_X7_walk_131 rfl 1 rfl ?_
                  refine g_get (v := .ref (r 3)) hF 0 obC_9 (by decide) m_553 rfl d_X7_walk_132 ?_
                  refine g_getN (v := .ref (r 20)) hF 7 obC_3 (by decide) nm_109 rfl d_X7_walk_135 ?_
                  refine g_iload_n hF d_X7_walk_138 rfl 3 rfl ?_
                  refine g_callSN (As := [.ref (r 20), .int x2]) (rest := []) hF (c_at a g r σ arC_20 (by decide) x2) (Nat.le_of_ble_eq_true rfl) mS_X12_at nm_1053 rfl rfl (Nat.le_of_ble_eq_true rfl) d_X7_walk_139 (k_rop (fun r11 hr11 => ?_))
                  refine g_istore hF [(5, .int r11), (4, .int r7), (0, .ref (r 9)), (1, .int x1), (2, .int x2), (3, .int x3)] d_X7_walk_142 hnn (by decide) rfl ?_
                  refine g_aload_n hF d_X7_walk_144 rfl 2 rfl ?_
                  refine g_get (v := .ref (r 8)) hF 4 obC_9 (by decide) m_557 rfl d_X7_walk_145 ?_
                  refine g_aload_n hF d_X7_walk_148 rfl 2 rfl ?_
                  refine g_iload_n hF d_X7_walk_149 rfl 4 rfl ?_
                  refine g_iconst hF (v := 1) d_X7_walk_150 (by decide) ?_
                  refine g_iadd hF d_X7_walk_151 ?_
                  refine g_iload hF d_X7_walk_152 0 rfl ?_
                  refine g_callV (As := [.int (x2 + 1), .int r11]) (rest := [.ref (r 8)]) hF (c_X7_constant a g r σ (x2 + 1) r11 inv) (Nat.le_of_ble_eq_true rfl) mV_X7_constant m_1474 (recv_ob obC_9) rfl rfl (Nat.le_of_ble_eq_true rfl) d_X7_walk_154 (k_i (fun r12 σ12 ⟨iσ12, ik12⟩ => ?_)) (fun _ _ _ h => h.elim)
                  have kp : Keep [(4, 1), (5, 1), (5, 7), (5, 9), (6, 2), (6, 3), (6, 4), (6, 5), (6, 6), (6, 7), (6, 10), (6, 15), (6, 17), (7, 7), (8, 6), (8, 7), (8, 8), (8, 9), (8, 10), (8, 11), (8, 12), (8, 13), (8, 14), (8, 15), (8, 16), (9, 5)] [17, 24, 25, 26, 27, 28, 29, 30, 31, 32, 33, 38, 39, 40, 41, 42, 43, 44, 45, 48, 49, 50, 51, 52, 53, 54] σ0 σ12 := keep_c kp ik12 (by decide) (by decide)
                  refine g_putN (v := r12) hF 8 obC_8 (by decide) nm_500 rfl rfl rfl d_X7_walk_157 ?_
                  have kp : Keep [(4, 1), (5, 1), (5, 7), (5, 9), (6, 2), (6, 3), (6, 4), (6, 5), (6, 6), (6, 7), (6, 10), (6, 15), (6, 17), (7, 7), (8, 6), (8, 7), (8, 8), (8, 9), (8, 10), (8, 11), (8, 12), (8, 13), (8, 14), (8, 15), (8, 16), (9, 5)] [17, 24, 25, 26, 27, 28, 29, 30, 31, 32, 33, 38, 39, 40, 41, 42, 43, 44, 45, 48, 49, 50, 51, 52, 53, 54] σ0 (upC σ12 8 8 r12) := keep_f kp (by decide)
                  refine g_iload_n hF d_X7_walk_160 rfl 4 rfl ?_
                  refine g_iload hF d_X7_walk_161 0 rfl ?_
                  refine g_mmax hF (Nat.le_of_ble_eq_true rfl) m_1481 m_1131 m_23 m_1132 (Nat.le_of_ble_eq_true rfl) d_X7_walk_163 ?_
                  refine g_nm (fun v14 ev14 => ?_)
                  have mv14 := s_max ev14
                  refine g_istore_n hF [(2, .int v14), (5, .int r11), (4, .int r7), (0, .ref (r 9)), (1, .int x1), (3, .int x3)] d_X7_walk_166 rfl hnn (by decide) rfl ?_
                  refine g_iinc hF (v14 + 1) [(2, .int (v14 + 1)), (5, .int r11), (4, .int r7), (0, .ref (r 9)), (1, .int x1), (3, .int x3)] d_X7_walk_167 0 rfl rfl hnn (by decide) rfl ?_
                  refine g_iinc hF (x3 + (-1)) [(3, .int (x3 + (-1))), (2, .int (v14 + 1)), (5, .int r11), (4, .int r7), (0, .ref (r 9)), (1, .int x1)] d_X7_walk_170 5 rfl rfl hnn (by decide) rfl ?_
                  refine g_goto hF 38 d_X7_walk_173 (by decide) ?_
                  have j15 : Inv (upC σ12 8 8 r12) := ⟨iσ12.1, iσ12.2.1, iσ12.2.2.1, iσ12.2.2.2.1, iσ12.2.2.2.2.1, iσ12.2.2.2.2.2.1, iσ12.2.2.2.2.2.2.1, iσ12.2.2.2.2.2.2.2.1, iσ12.2.2.2.2.2.2.2.2.1, iσ12.2.2.2.2.2.2.2.2.2.1, iσ12.2.2.2.2.2.2.2.2.2.2.1, iσ12.2.2.2.2.2.2.2.2.2.2.2.1, iσ12.2.2.2.2.2.2.2.2.2.2.2.2.1, iσ12.2.2.2.2.2.2.2.2.2.2.2.2.2.1, iσ12.2.2.2.2.2.2.2.2.2.2.2.2.2.2.1, iσ12.2.2.2.2.2.2.2.2.2.2.2.2.2.2.2.1, iσ12.2.2.2.2.2.2.2.2.2.2.2.2.2.2.2.2.1, iσ12.2.2.2.2.2.2.2.2.2.2.2.2.2.2.2.2.2.1, iσ12.2.2.2.2.2.2.2.2.2.2.2.2.2.2.2.2.2.2.1, iσ12.2.2.2.2.2.2.2.2.2.2.2.2.2.2.2.2.2.2.2⟩
                  exact g_sub (L' := [(0, .ref (r 9)), (1, .int x1), (2, .int (v14 + 1)), (3, .int (x3 + (-1)))]) [4, 5, 1, 0] rfl (ih38 _ (N38 ▸ dnm_lt c1_39 (by decide)) (upC σ12 8 8 r12) x1 (v14 + 1) (x3 + (-1)) rfl j15 kp (by rw [show ((upC σ12 8 8 r12) 6 17) = (σ 6 17) from (ik12 6 17 rfl rfl rfl)]; rw [show ((upC σ12 8 8 r12) 6 10) = (σ 6 10) from (ik12 6 10 rfl rfl rfl)]; exact walk_j c1_39 (dec_eq c1_39) hj (by show ((σ 6 17).toInt ≤ (σ 6 17).toInt + 1 ∧ (σ 6 17).toInt - 1 ≤ (σ 6 17).toInt) ∨ (σ 6 17).toInt = 0 ∨ (σ 6 17).toInt = 1; omega) (by show (σ 6 10).toInt ≤ (σ 6 10).toInt + 1 ∨ (σ 6 10).toInt = 0; omega)))
                · -- not taken at 115
                  refine g_aload_n hF d_X7_walk_118 rfl 1 rfl ?_
                  refine g_get (v := .ref (r 8)) hF 4 obC_9 (by decide) m_557 rfl d_X7_walk_119 ?_
                  refine g_iload hF d_X7_walk_122 0 rfl ?_
                  refine g_iload_n hF d_X7_walk_124 rfl 3 rfl ?_
                  refine g_callVN (As := [.int r7, .int x2]) (rest := []) hF (c_X1_take a g r σ r7 x2 (fun h9 => ⟨in_at (by omega) hs7, nm_keep (fun z => kp 14 z rfl rfl rfl) (gi_take hnm (fun z => kp 18 z rfl rfl rfl) (fun z => kp 19 z rfl rfl rfl) (by have h34 : (σ 3 4).toInt = (σ0 3 4).toInt := (by rw [kp 3 4 rfl rfl rfl]); have e0 := s_rng x2; have e1 := s_rng (σ0 3 4); have e2 := i0.2.2.2.2.2.2.2.1; have e3 := s_rng (σ 3 4); have e4 := inv.2.2.2.2.2.2.2.1; omega) h9 hs7)⟩) (by show (σ 6 10).toInt < 90000; have e0 := s_rng r7; have e1 := s_rng x2; have e2 := s_rng (σ 6 10); have e3 := inv.2.2.2.2.2.1; have e4 := s_rng (σ0 6 10); have e5 := i0.2.2.2.2.2.1; have e6 := s_rng (σ 3 4); have e7 := inv.2.2.2.2.2.2.2.1; have e8 : (20 : Int32).toInt = 20 := (by decide); have e9 : (40 : Int32).toInt = 40 := (by decide); omega) inv) (Nat.le_of_ble_eq_true rfl) mV_X1_take nm_1352 (recv_ob obC_8) rfl rfl (Nat.le_of_ble_eq_true rfl) d_X7_walk_125 (k_v (fun σ16 ⟨hs16, iσ16, ik16⟩ => ?_))
                  have hs16 : ((σ16 6 17).toInt = (σ 6 17).toInt ∨ (σ16 6 17).toInt = 0 ∨ (σ16 6 17).toInt = 1) ∧ ((σ16 6 10).toInt ≤ (σ 6 10).toInt + 1 ∨ (σ16 6 10).toInt = 0) := hs16
                  have kp : Keep [(4, 1), (5, 1), (5, 7), (5, 9), (6, 2), (6, 3), (6, 4), (6, 5), (6, 6), (6, 7), (6, 10), (6, 15), (6, 17), (7, 7), (8, 6), (8, 7), (8, 8), (8, 9), (8, 10), (8, 11), (8, 12), (8, 13), (8, 14), (8, 15), (8, 16), (9, 5)] [17, 24, 25, 26, 27, 28, 29, 30, 31, 32, 33, 38, 39, 40, 41, 42, 43, 44, 45, 48, 49, 50, 51, 52, 53, 54] σ0 σ16 := keep_c kp ik16 (by decide) (by decide)
                  refine g_goto hF 167 d_X7_walk_128 (by decide) ?_
                  refine g_iinc hF (x2 + 1) [(2, .int (x2 + 1)), (4, .int r7), (0, .ref (r 9)), (1, .int x1), (3, .int x3)] d_X7_walk_167 3 rfl rfl hnn (by decide) rfl ?_
                  refine g_iinc hF (x3 + (-1)) [(3, .int (x3 + (-1))), (2, .int (x2 + 1)), (4, .int r7), (0, .ref (r 9)), (1, .int x1)] d_X7_walk_170 4 rfl rfl hnn (by decide) rfl ?_
                  refine g_goto hF 38 d_X7_walk_173 (by decide) ?_
                  exact g_sub (L' := [(0, .ref (r 9)), (1, .int x1), (2, .int (x2 + 1)), (3, .int (x3 + (-1)))]) [3, 4, 1, 0] rfl (ih38 _ (N38 ▸ dnm_lt c1_39 (by decide)) σ16 x1 (x2 + 1) (x3 + (-1)) rfl iσ16 kp (by exact walk_j c1_39 (dec_eq c1_39) hj (by show ((σ16 6 17).toInt ≤ (σ 6 17).toInt + 1 ∧ (σ 6 17).toInt - 1 ≤ (σ16 6 17).toInt) ∨ (σ16 6 17).toInt = 0 ∨ (σ16 6 17).toInt = 1; omega) (by show (σ16 6 10).toInt ≤ (σ 6 10).toInt + 1 ∨ (σ16 6 10).toInt = 0; omega)))
              · -- not taken at 98
                refine g_aload_n hF d_X7_walk_101 rfl 1 rfl ?_
                refine g_iload hF d_X7_walk_102 0 rfl ?_
                refine g_iload_n hF d_X7_walk_104 rfl 3 rfl ?_
                refine g_callV (As := [.int r7, .int x2]) (rest := []) hF (c_X7_take a g r σ r7 x2 (by show -100000 ≤ (σ 6 17).toInt ∧ (σ 6 17).toInt ≤ 100000; have e0 := s_rng r7; have e1 := s_rng x2; have e2 := s_rng (σ 6 17); have e3 := s_rng (σ0 6 17); have e4 := s_rng (σ 3 4); have e5 := inv.2.2.2.2.2.2.2.1; have e6 : (20 : Int32).toInt = 20 := (by decide); have e7 : (40 : Int32).toInt = 40 := (by decide); omega) inv) (Nat.le_of_ble_eq_true rfl) mV_X7_take m_1285 (recv_ob obC_9) rfl rfl (Nat.le_of_ble_eq_true rfl) d_X7_walk_105 (k_v (fun σ17 ⟨hs17, iσ17, ik17⟩ => ?_)) (fun _ _ _ h => h.elim)
                have hs17 : (σ17 6 17).toInt ≤ (σ 6 17).toInt + 1 ∧ (σ 6 17).toInt - 1 ≤ (σ17 6 17).toInt := hs17
                have kp : Keep [(4, 1), (5, 1), (5, 7), (5, 9), (6, 2), (6, 3), (6, 4), (6, 5), (6, 6), (6, 7), (6, 10), (6, 15), (6, 17), (7, 7), (8, 6), (8, 7), (8, 8), (8, 9), (8, 10), (8, 11), (8, 12), (8, 13), (8, 14), (8, 15), (8, 16), (9, 5)] [17, 24, 25, 26, 27, 28, 29, 30, 31, 32, 33, 38, 39, 40, 41, 42, 43, 44, 45, 48, 49, 50, 51, 52, 53, 54] σ0 σ17 := keep_c kp ik17 (by decide) (by decide)
                refine g_goto hF 167 d_X7_walk_108 (by decide) ?_
                refine g_iinc hF (x2 + 1) [(2, .int (x2 + 1)), (4, .int r7), (0, .ref (r 9)), (1, .int x1), (3, .int x3)] d_X7_walk_167 3 rfl rfl hnn (by decide) rfl ?_
                refine g_iinc hF (x3 + (-1)) [(3, .int (x3 + (-1))), (2, .int (x2 + 1)), (4, .int r7), (0, .ref (r 9)), (1, .int x1)] d_X7_walk_170 4 rfl rfl hnn (by decide) rfl ?_
                refine g_goto hF 38 d_X7_walk_173 (by decide) ?_
                exact g_sub (L' := [(0, .ref (r 9)), (1, .int x1), (2, .int (x2 + 1)), (3, .int (x3 + (-1)))]) [3, 4, 1, 0] rfl (ih38 _ (N38 ▸ dnm_lt c1_39 (by decide)) σ17 x1 (x2 + 1) (x3 + (-1)) rfl iσ17 kp (by rw [show (σ17 6 10) = (σ 6 10) from (ik17 6 10 rfl rfl rfl)]; exact walk_j c1_39 (dec_eq c1_39) hj (by show ((σ17 6 17).toInt ≤ (σ 6 17).toInt + 1 ∧ (σ 6 17).toInt - 1 ≤ (σ17 6 17).toInt) ∨ (σ17 6 17).toInt = 0 ∨ (σ17 6 17).toInt = 1; omega) (by show (σ 6 10).toInt ≤ (σ 6 10).toInt + 1 ∨ (σ 6 10).toInt = 0; omega)))
            · -- not taken at 80
              refine g_aload_n hF d_X7_walk_83 rfl 1 rfl ?_
              refine g_get (v := .ref (r 7)) hF 3 obC_9 (by decide) m_556 rfl d_X7_walk_84 ?_
              refine g_iload_n hF d_X7_walk_87 rfl 3 rfl ?_
              refine g_callVN (As := [.int x2]) (rest := []) hF (c_X2_take a g r σ x2 inv) (Nat.le_of_ble_eq_true rfl) mV_X2_take nm_1054 (recv_ob obC_7) rfl rfl (Nat.le_of_ble_eq_true rfl) d_X7_walk_88 (k_v (fun σ18 ⟨iσ18, ik18⟩ => ?_))
              have kp : Keep [(4, 1), (5, 1), (5, 7), (5, 9), (6, 2), (6, 3), (6, 4), (6, 5), (6, 6), (6, 7), (6, 10), (6, 15), (6, 17), (7, 7), (8, 6), (8, 7), (8, 8), (8, 9), (8, 10), (8, 11), (8, 12), (8, 13), (8, 14), (8, 15), (8, 16), (9, 5)] [17, 24, 25, 26, 27, 28, 29, 30, 31, 32, 33, 38, 39, 40, 41, 42, 43, 44, 45, 48, 49, 50, 51, 52, 53, 54] σ0 σ18 := keep_c kp ik18 (by decide) (by decide)
              refine g_goto hF 167 d_X7_walk_91 (by decide) ?_
              refine g_iinc hF (x2 + 1) [(2, .int (x2 + 1)), (4, .int r7), (0, .ref (r 9)), (1, .int x1), (3, .int x3)] d_X7_walk_167 3 rfl rfl hnn (by decide) rfl ?_
              refine g_iinc hF (x3 + (-1)) [(3, .int (x3 + (-1))), (2, .int (x2 + 1)), (4, .int r7), (0, .ref (r 9)), (1, .int x1)] d_X7_walk_170 4 rfl rfl hnn (by decide) rfl ?_
              refine g_goto hF 38 d_X7_walk_173 (by decide) ?_
              exact g_sub (L' := [(0, .ref (r 9)), (1, .int x1), (2, .int (x2 + 1)), (3, .int (x3 + (-1)))]) [3, 4, 1, 0] rfl (ih38 _ (N38 ▸ dnm_lt c1_39 (by decide)) σ18 x1 (x2 + 1) (x3 + (-1)) rfl iσ18 kp (by rw [show (σ18 6 17) = (σ 6 17) from (ik18 6 17 rfl rfl rfl)]; rw [show (σ18 6 10) = (σ 6 10) from (ik18 6 10 rfl rfl rfl)]; exact walk_j c1_39 (dec_eq c1_39) hj (by show ((σ 6 17).toInt ≤ (σ 6 17).toInt + 1 ∧ (σ 6 17).toInt - 1 ≤ (σ 6 17).toInt) ∨ (σ 6 17).toInt = 0 ∨ (σ 6 17).toInt = 1; omega) (by show (σ 6 10).toInt ≤ (σ 6 10).toInt + 1 ∨ (σ 6 10).toInt = 0; omega)))
  have kp : Keep [(4, 1), (5, 1), (5, 7), (5, 9), (6, 2), (6, 3), (6, 4), (6, 5), (6, 6), (6, 7), (6, 10), (6, 15), (6, 17), (7, 7), (8, 6), (8, 7), (8, 8), (8, 9), (8, 10), (8, 11), (8, 12), (8, 13), (8, 14), (8, 15), (8, 16), (9, 5)] [17, 24, 25, 26, 27, 28, 29, 30, 31, 32, 33, 38, 39, 40, 41, 42, 43, 44, 45, 48, 49, 50, 51, 52, 53, 54] σ0 σ0 := keep_rf
  refine g_aload_n hF d_X7_walk_0 rfl 0 rfl ?_
  refine g_get (v := .ref (r 6)) hF 1 obC_9 (by decide) m_554 rfl d_X7_walk_1 ?_
  refine g_iload_n hF d_X7_walk_4 rfl 1 rfl ?_
  refine g_callVN (As := [.int a1]) (rest := []) hF (c_X11_begin a g r σ0 a1 i0) (Nat.le_of_ble_eq_true rfl) mV_X11_begin nm_1041 (recv_ob obC_6) rfl rfl (Nat.le_of_ble_eq_true rfl) d_X7_walk_5 (k_v (fun σ19 ⟨hs19, iσ19, ik19⟩ => ?_))
  have hs19 : (σ19 6 17).toInt = 0 ∧ (σ19 6 10).toInt = 0 := hs19
  have kp : Keep [(4, 1), (5, 1), (5, 7), (5, 9), (6, 2), (6, 3), (6, 4), (6, 5), (6, 6), (6, 7), (6, 10), (6, 15), (6, 17), (7, 7), (8, 6), (8, 7), (8, 8), (8, 9), (8, 10), (8, 11), (8, 12), (8, 13), (8, 14), (8, 15), (8, 16), (9, 5)] [17, 24, 25, 26, 27, 28, 29, 30, 31, 32, 33, 38, 39, 40, 41, 42, 43, 44, 45, 48, 49, 50, 51, 52, 53, 54] σ0 σ19 := keep_c kp ik19 (by decide) (by decide)
  refine g_aload_n hF d_X7_walk_8 rfl 0 rfl ?_
  refine g_get (v := .ref (r 8)) hF 4 obC_9 (by decide) m_557 rfl d_X7_walk_9 ?_
  refine g_callVN (As := []) (rest := []) hF (c_X1_begin a g r σ19 iσ19) (Nat.le_of_ble_eq_true rfl) mV_X1_begin nm_1049 (recv_ob obC_8) rfl rfl (Nat.le_of_ble_eq_true rfl) d_X7_walk_12 (k_v (fun σ20 ⟨iσ20, ik20⟩ => ?_))
  have kp : Keep [(4, 1), (5, 1), (5, 7), (5, 9), (6, 2), (6, 3), (6, 4), (6, 5), (6, 6), (6, 7), (6, 10), (6, 15), (6, 17), (7, 7), (8, 6), (8, 7), (8, 8), (8, 9), (8, 10), (8, 11), (8, 12), (8, 13), (8, 14), (8, 15), (8, 16), (9, 5)] [17, 24, 25, 26, 27, 28, 29, 30, 31, 32, 33, 38, 39, 40, 41, 42, 43, 44, 45, 48, 49, 50, 51, 52, 53, 54] σ0 σ20 := keep_c kp ik20 (by decide) (by decide)
  refine g_aload_n hF d_X7_walk_15 rfl 0 rfl ?_
  refine g_get (v := .ref (r 7)) hF 3 obC_9 (by decide) m_556 rfl d_X7_walk_16 ?_
  refine g_iconst hF (v := 0) d_X7_walk_19 (by decide) ?_
  refine g_putN (v := 0) hF 7 obC_7 (by decide) nm_465 rfl rfl rfl d_X7_walk_20 ?_
  have kp : Keep [(4, 1), (5, 1), (5, 7), (5, 9), (6, 2), (6, 3), (6, 4), (6, 5), (6, 6), (6, 7), (6, 10), (6, 15), (6, 17), (7, 7), (8, 6), (8, 7), (8, 8), (8, 9), (8, 10), (8, 11), (8, 12), (8, 13), (8, 14), (8, 15), (8, 16), (9, 5)] [17, 24, 25, 26, 27, 28, 29, 30, 31, 32, 33, 38, 39, 40, 41, 42, 43, 44, 45, 48, 49, 50, 51, 52, 53, 54] σ0 (upC σ20 7 7 0) := keep_f kp (by decide)
  refine g_aload_n hF d_X7_walk_23 rfl 0 rfl ?_
  refine g_iconst hF (v := 0) d_X7_walk_24 (by decide) ?_
  refine g_put (v := 0) hF 5 obC_9 (by decide) m_558 rfl rfl rfl d_X7_walk_25 ?_
  have kp : Keep [(4, 1), (5, 1), (5, 7), (5, 9), (6, 2), (6, 3), (6, 4), (6, 5), (6, 6), (6, 7), (6, 10), (6, 15), (6, 17), (7, 7), (8, 6), (8, 7), (8, 8), (8, 9), (8, 10), (8, 11), (8, 12), (8, 13), (8, 14), (8, 15), (8, 16), (9, 5)] [17, 24, 25, 26, 27, 28, 29, 30, 31, 32, 33, 38, 39, 40, 41, 42, 43, 44, 45, 48, 49, 50, 51, 52, 53, 54] σ0 (upC (upC σ20 7 7 0) 9 5 0) := keep_f kp (by decide)
  refine g_iconst hF (v := 0) d_X7_walk_28 (by decide) ?_
  refine g_istore_n hF [(2, .int 0), (0, .ref (r 9)), (1, .int a1)] d_X7_walk_29 rfl hnn (by decide) rfl ?_
  refine g_aload_n hF d_X7_walk_30 rfl 1 rfl ?_
  refine g_get (v := .ref (r 3)) hF 0 obC_9 (by decide) m_553 rfl d_X7_walk_31 ?_
  refine g_getN (v := .int (σ20 3 4)) hF 4 obC_3 (by decide) nm_100 rfl d_X7_walk_34 ?_
  refine g_top (v := (σ0 3 4)) ((ik20 3 4 rfl rfl rfl).trans (ik19 3 4 rfl rfl rfl)) ?_
  refine g_istore_n hF [(3, .int (σ0 3 4)), (2, .int 0), (0, .ref (r 9)), (1, .int a1)] d_X7_walk_37 rfl hnn (by decide) rfl ?_
  have j21 : Inv (upC (upC σ20 7 7 0) 9 5 0) := ⟨iσ20.1, iσ20.2.1, iσ20.2.2.1, iσ20.2.2.2.1, iσ20.2.2.2.2.1, iσ20.2.2.2.2.2.1, iσ20.2.2.2.2.2.2.1, iσ20.2.2.2.2.2.2.2.1, iσ20.2.2.2.2.2.2.2.2.1, iσ20.2.2.2.2.2.2.2.2.2.1, iσ20.2.2.2.2.2.2.2.2.2.2.1, iσ20.2.2.2.2.2.2.2.2.2.2.2.1, iσ20.2.2.2.2.2.2.2.2.2.2.2.2.1, iσ20.2.2.2.2.2.2.2.2.2.2.2.2.2.1, iσ20.2.2.2.2.2.2.2.2.2.2.2.2.2.2.1, iσ20.2.2.2.2.2.2.2.2.2.2.2.2.2.2.2.1, iσ20.2.2.2.2.2.2.2.2.2.2.2.2.2.2.2.2.1, iσ20.2.2.2.2.2.2.2.2.2.2.2.2.2.2.2.2.2.1, iσ20.2.2.2.2.2.2.2.2.2.2.2.2.2.2.2.2.2.2.1, iσ20.2.2.2.2.2.2.2.2.2.2.2.2.2.2.2.2.2.2.2⟩
  exact g_sub (L' := [(0, .ref (r 9)), (1, .int a1), (2, .int 0), (3, .int (σ0 3 4))]) [2, 3, 1, 0] rfl (b38 _ (upC (upC σ20 7 7 0) 9 5 0) a1 (0 : Int32) (σ0 3 4) rfl j21 kp (by rw [show ((upC (upC σ20 7 7 0) 9 5 0) 6 17) = (σ19 6 17) from (ik20 6 17 rfl rfl rfl)]; rw [show ((upC (upC σ20 7 7 0) 9 5 0) 6 10) = (σ19 6 10) from (ik20 6 10 rfl rfl rfl)]; show (σ0 3 4).toInt - 40000 ≤ (σ19 6 17).toInt ∧ (σ19 6 17).toInt ≤ 40000 - (σ0 3 4).toInt ∧ (σ0 3 4).toInt ≤ 32100 ∧ (σ19 6 10).toInt ≤ 40000 - (σ0 3 4).toInt; have e0 := s_rng (σ0 3 4); have e1 := i0.2.2.2.2.2.2.2.1; have e2 : (0 : Int32).toInt = 0 := (by decide); have e3 := s_rng a1; have e4 := s_rng (σ19 6 17); have e5 := s_rng (σ0 6 17); have e6 := s_rng (σ19 6 10); have e7 := iσ19.2.2.2.2.2.1; have e8 := s_rng (σ0 6 10); have e9 := i0.2.2.2.2.2.1; omega))
set_option maxHeartbeats 4000000 in
set_option maxRecDepth 100000 in
theorem c_X12_compile (a : Nat → Nat) (g : Nat → Nat → Int32) (r : Nat → Nat) (σ0 : St) (a1 : Int32) (i0 : Inv σ0) (l : Launch) (D : va_G) (cy : Nat → ClassId) : Ct l D cy SC r (EC a g) y_X12_compile (Cond.code y_X12_compile b_X12_compile 3 (some .int)) 624 [.ref (r 0), .int a1] σ0 Z0 [] (QI (fun v9 σ9 => (((σ9 0 1).toInt = 0) ∧ Inv σ9 ∧ Keep [(0, 1), (0, 3), (2, 1), (2, 2), (2, 3), (2, 4), (3, 1), (3, 2), (3, 3), (3, 4), (3, 9), (4, 1), (5, 1), (5, 7), (5, 9), (5, 13), (6, 2), (6, 3), (6, 4), (6, 5), (6, 6), (6, 7), (6, 10), (6, 15), (6, 17), (7, 7), (8, 6), (8, 7), (8, 8), (8, 9), (8, 10), (8, 11), (8, 12), (8, 13), (8, 14), (8, 15), (8, 16), (9, 5)] [13, 14, 15, 16, 17, 18, 19, 20, 21, 22, 23, 24, 25, 26, 27, 28, 29, 30, 31, 32, 33, 34, 35, 36, 37, 38, 39, 40, 41, 42, 43, 44, 45, 48, 49, 50, 51, 52, 53, 54] σ0 σ9))) QF := by
  refine Ct_of (EC_ok a g) (by decide) (Nat.le_of_ble_eq_true rfl) (by decide) (fun X hnn hF => ?_)
  show G SC r X σ0 Z0 [] [(0, .ref (r 0)), (1, .int a1)] [] 0
  have kp : Keep [(0, 1), (0, 3), (2, 1), (2, 2), (2, 3), (2, 4), (3, 1), (3, 2), (3, 3), (3, 4), (3, 9), (4, 1), (5, 1), (5, 7), (5, 9), (5, 13), (6, 2), (6, 3), (6, 4), (6, 5), (6, 6), (6, 7), (6, 10), (6, 15), (6, 17), (7, 7), (8, 6), (8, 7), (8, 8), (8, 9), (8, 10), (8, 11), (8, 12), (8, 13), (8, 14), (8, 15), (8, 16), (9, 5)] [13, 14, 15, 16, 17, 18, 19, 20, 21, 22, 23, 24, 25, 26, 27, 28, 29, 30, 31, 32, 33, 34, 35, 36, 37, 38, 39, 40, 41, 42, 43, 44, 45, 48, 49, 50, 51, 52, 53, 54] σ0 σ0 := keep_rf
  refine g_aload_n hF d_X12_compile_0 rfl 0 rfl ?_
  refine g_get (v := .int (σ0 0 1)) hF 1 obC_0 (by decide) m_736 rfl d_X12_compile_1 ?_
  refine g_istore_n hF [(2, .int (σ0 0 1)), (0, .ref (r 0)), (1, .int a1)] d_X12_compile_4 rfl hnn (by decide) rfl ?_
  refine g_aload_n hF d_X12_compile_5 rfl 1 rfl ?_
  refine g_iconst hF (v := 0) d_X12_compile_6 (by decide) ?_
  refine g_put (v := 0) hF 1 obC_0 (by decide) m_736 rfl rfl rfl d_X12_compile_7 ?_
  have kp : Keep [(0, 1), (0, 3), (2, 1), (2, 2), (2, 3), (2, 4), (3, 1), (3, 2), (3, 3), (3, 4), (3, 9), (4, 1), (5, 1), (5, 7), (5, 9), (5, 13), (6, 2), (6, 3), (6, 4), (6, 5), (6, 6), (6, 7), (6, 10), (6, 15), (6, 17), (7, 7), (8, 6), (8, 7), (8, 8), (8, 9), (8, 10), (8, 11), (8, 12), (8, 13), (8, 14), (8, 15), (8, 16), (9, 5)] [13, 14, 15, 16, 17, 18, 19, 20, 21, 22, 23, 24, 25, 26, 27, 28, 29, 30, 31, 32, 33, 34, 35, 36, 37, 38, 39, 40, 41, 42, 43, 44, 45, 48, 49, 50, 51, 52, 53, 54] σ0 (upC σ0 0 1 0) := keep_f kp (by decide)
  have p1 : 0 ≤ (0 : Int32).toInt ∧ (0 : Int32).toInt ≤ 16000 := (by have e0 : (0 : Int32).toInt = 0 := (by decide); omega)
  refine g_aload_n hF d_X12_compile_10 rfl 1 rfl ?_
  refine g_iconst hF (v := (-1)) d_X12_compile_11 (by decide) ?_
  refine g_put (v := (-1)) hF 3 obC_0 (by decide) m_738 rfl rfl rfl d_X12_compile_12 ?_
  have kp : Keep [(0, 1), (0, 3), (2, 1), (2, 2), (2, 3), (2, 4), (3, 1), (3, 2), (3, 3), (3, 4), (3, 9), (4, 1), (5, 1), (5, 7), (5, 9), (5, 13), (6, 2), (6, 3), (6, 4), (6, 5), (6, 6), (6, 7), (6, 10), (6, 15), (6, 17), (7, 7), (8, 6), (8, 7), (8, 8), (8, 9), (8, 10), (8, 11), (8, 12), (8, 13), (8, 14), (8, 15), (8, 16), (9, 5)] [13, 14, 15, 16, 17, 18, 19, 20, 21, 22, 23, 24, 25, 26, 27, 28, 29, 30, 31, 32, 33, 34, 35, 36, 37, 38, 39, 40, 41, 42, 43, 44, 45, 48, 49, 50, 51, 52, 53, 54] σ0 (upC (upC σ0 0 1 0) 0 3 (-1)) := keep_f kp (by decide)
  refine g_iload_n hF d_X12_compile_15 rfl 2 rfl ?_
  refine g_if_lt hF 36 d_X12_compile_16 (by decide) rfl (fun c2_16 => ?_) (fun c2_16 => ?_)
  · -- taken at 16
    refine g_bipush hF (v := (-14)) d_X12_compile_36 (by decide) ?_
    have j3 : Inv (upC (upC σ0 0 1 0) 0 3 (-1)) := ⟨p1, i0.2.1, i0.2.2.1, i0.2.2.2.1, i0.2.2.2.2.1, i0.2.2.2.2.2.1, i0.2.2.2.2.2.2.1, i0.2.2.2.2.2.2.2.1, i0.2.2.2.2.2.2.2.2.1, i0.2.2.2.2.2.2.2.2.2.1, i0.2.2.2.2.2.2.2.2.2.2.1, i0.2.2.2.2.2.2.2.2.2.2.2.1, i0.2.2.2.2.2.2.2.2.2.2.2.2.1, i0.2.2.2.2.2.2.2.2.2.2.2.2.2.1, i0.2.2.2.2.2.2.2.2.2.2.2.2.2.2.1, i0.2.2.2.2.2.2.2.2.2.2.2.2.2.2.2.1, i0.2.2.2.2.2.2.2.2.2.2.2.2.2.2.2.2.1, i0.2.2.2.2.2.2.2.2.2.2.2.2.2.2.2.2.2.1, i0.2.2.2.2.2.2.2.2.2.2.2.2.2.2.2.2.2.2.1, i0.2.2.2.2.2.2.2.2.2.2.2.2.2.2.2.2.2.2.2⟩
    exact g_iret hF rfl d_X12_compile_38 ⟨rfl, rfl, ((-14) : Int32), rfl, ⟨(by show 0 = 0; have e0 : ((-14) : Int32).toInt = -14 := (by decide); have e1 : (0 : Int32).toInt = 0 := (by decide); have e2 := s_rng (σ0 0 1); have e3 := i0.1; have e4 := s_rng a1; omega), j3, kp⟩⟩
  · -- not taken at 16
    refine g_iload_n hF d_X12_compile_19 rfl 2 rfl ?_
    refine g_iconst hF (v := 3) d_X12_compile_20 (by decide) ?_
    refine g_icmp_gt (yv := 3) hF 36 d_X12_compile_21 (by decide) rfl (by decide) (fun c4_21 => ?_) (fun c4_21 => ?_)
    · -- taken at 21
      refine g_bipush hF (v := (-14)) d_X12_compile_36 (by decide) ?_
      have j5 : Inv (upC (upC σ0 0 1 0) 0 3 (-1)) := ⟨p1, i0.2.1, i0.2.2.1, i0.2.2.2.1, i0.2.2.2.2.1, i0.2.2.2.2.2.1, i0.2.2.2.2.2.2.1, i0.2.2.2.2.2.2.2.1, i0.2.2.2.2.2.2.2.2.1, i0.2.2.2.2.2.2.2.2.2.1, i0.2.2.2.2.2.2.2.2.2.2.1, i0.2.2.2.2.2.2.2.2.2.2.2.1, i0.2.2.2.2.2.2.2.2.2.2.2.2.1, i0.2.2.2.2.2.2.2.2.2.2.2.2.2.1, i0.2.2.2.2.2.2.2.2.2.2.2.2.2.2.1, i0.2.2.2.2.2.2.2.2.2.2.2.2.2.2.2.1, i0.2.2.2.2.2.2.2.2.2.2.2.2.2.2.2.2.1, i0.2.2.2.2.2.2.2.2.2.2.2.2.2.2.2.2.2.1, i0.2.2.2.2.2.2.2.2.2.2.2.2.2.2.2.2.2.2.1, i0.2.2.2.2.2.2.2.2.2.2.2.2.2.2.2.2.2.2.2⟩
      exact g_iret hF rfl d_X12_compile_38 ⟨rfl, rfl, ((-14) : Int32), rfl, ⟨(by show 0 = 0; have e0 : ((-14) : Int32).toInt = -14 := (by decide); have e1 : (0 : Int32).toInt = 0 := (by decide); have e2 := s_rng (σ0 0 1); have e3 := i0.1; have e4 := s_rng a1; have e5 : (3 : Int32).toInt = 3 := (by decide); omega), j5, kp⟩⟩
    · -- not taken at 21
      refine g_aload_n hF d_X12_compile_24 rfl 1 rfl ?_
      refine g_get (v := .ref (r 5)) hF 7 obC_0 (by decide) m_742 rfl d_X12_compile_25 ?_
      refine g_getN (v := .int (σ0 5 13)) hF 13 obC_5 (by decide) nm_250 rfl d_X12_compile_28 ?_
      refine g_bipush hF (v := 100) d_X12_compile_31 (by decide) ?_
      refine g_icmp_lt (yv := 100) hF 39 d_X12_compile_33 (by decide) rfl (by decide) (fun c6_33 => ?_) (fun c6_33 => ?_)
      · -- taken at 33
        refine g_aload_n hF d_X12_compile_39 rfl 1 rfl ?_
        refine g_get (v := .ref (r 2)) hF 4 obC_0 (by decide) m_739 rfl d_X12_compile_40 ?_
        refine g_iload_n hF d_X12_compile_43 rfl 0 rfl ?_
        have j8 : Inv (upC (upC σ0 0 1 0) 0 3 (-1)) := ⟨p1, i0.2.1, i0.2.2.1, i0.2.2.2.1, i0.2.2.2.2.1, i0.2.2.2.2.2.1, i0.2.2.2.2.2.2.1, i0.2.2.2.2.2.2.2.1, i0.2.2.2.2.2.2.2.2.1, i0.2.2.2.2.2.2.2.2.2.1, i0.2.2.2.2.2.2.2.2.2.2.1, i0.2.2.2.2.2.2.2.2.2.2.2.1, i0.2.2.2.2.2.2.2.2.2.2.2.2.1, i0.2.2.2.2.2.2.2.2.2.2.2.2.2.1, i0.2.2.2.2.2.2.2.2.2.2.2.2.2.2.1, i0.2.2.2.2.2.2.2.2.2.2.2.2.2.2.2.1, i0.2.2.2.2.2.2.2.2.2.2.2.2.2.2.2.2.1, i0.2.2.2.2.2.2.2.2.2.2.2.2.2.2.2.2.2.1, i0.2.2.2.2.2.2.2.2.2.2.2.2.2.2.2.2.2.2.1, i0.2.2.2.2.2.2.2.2.2.2.2.2.2.2.2.2.2.2.2⟩
        refine g_callVN (As := [.int (σ0 0 1)]) (rest := []) hF (c_X10_scan a g r (upC (upC σ0 0 1 0) 0 3 (-1)) (σ0 0 1) (by show 0 ≤ (σ0 0 1).toInt ∧ (σ0 0 1).toInt ≤ 16000; have e0 := s_rng (σ0 0 1); have e1 := i0.1; omega) j8) (Nat.le_of_ble_eq_true rfl) mV_X10_scan nm_798 (recv_ob obC_2) rfl rfl (Nat.le_of_ble_eq_true rfl) d_X12_compile_44 (k_v (fun σ7 ⟨iσ7, ik7⟩ => ?_))
        have kp : Keep [(0, 1), (0, 3), (2, 1), (2, 2), (2, 3), (2, 4), (3, 1), (3, 2), (3, 3), (3, 4), (3, 9), (4, 1), (5, 1), (5, 7), (5, 9), (5, 13), (6, 2), (6, 3), (6, 4), (6, 5), (6, 6), (6, 7), (6, 10), (6, 15), (6, 17), (7, 7), (8, 6), (8, 7), (8, 8), (8, 9), (8, 10), (8, 11), (8, 12), (8, 13), (8, 14), (8, 15), (8, 16), (9, 5)] [13, 14, 15, 16, 17, 18, 19, 20, 21, 22, 23, 24, 25, 26, 27, 28, 29, 30, 31, 32, 33, 34, 35, 36, 37, 38, 39, 40, 41, 42, 43, 44, 45, 48, 49, 50, 51, 52, 53, 54] σ0 σ7 := keep_c kp ik7 (by decide) (by decide)
        refine g_aload_n hF d_X12_compile_47 rfl 1 rfl ?_
        refine g_get (v := .ref (r 3)) hF 5 obC_0 (by decide) m_740 rfl d_X12_compile_48 ?_
        refine g_callVN (As := []) (rest := []) hF (c_X3_read a g r σ7 iσ7) (Nat.le_of_ble_eq_true rfl) mV_X3_read nm_895 (recv_ob obC_3) rfl rfl (Nat.le_of_ble_eq_true rfl) d_X12_compile_51 (k_i (fun r9 σ9 ⟨hz9, ⟨hgp9, hgm9⟩, hs9, iσ9, ik9⟩ => ?_))
        have hs9 : (r9.toInt : Int) ≠ 0 → (σ9 3 3).toInt < 0 := hs9
        have kp : Keep [(0, 1), (0, 3), (2, 1), (2, 2), (2, 3), (2, 4), (3, 1), (3, 2), (3, 3), (3, 4), (3, 9), (4, 1), (5, 1), (5, 7), (5, 9), (5, 13), (6, 2), (6, 3), (6, 4), (6, 5), (6, 6), (6, 7), (6, 10), (6, 15), (6, 17), (7, 7), (8, 6), (8, 7), (8, 8), (8, 9), (8, 10), (8, 11), (8, 12), (8, 13), (8, 14), (8, 15), (8, 16), (9, 5)] [13, 14, 15, 16, 17, 18, 19, 20, 21, 22, 23, 24, 25, 26, 27, 28, 29, 30, 31, 32, 33, 34, 35, 36, 37, 38, 39, 40, 41, 42, 43, 44, 45, 48, 49, 50, 51, 52, 53, 54] σ0 σ9 := keep_c kp ik9 (by decide) (by decide)
        refine g_if_ne hF 81 d_X12_compile_54 (by decide) rfl (fun c10_54 => ?_) (fun c10_54 => ?_)
        · -- taken at 54
          refine g_aload_n hF d_X12_compile_81 rfl 1 rfl ?_
          refine g_get (v := .ref (r 9)) hF 11 obC_0 (by decide) m_746 rfl d_X12_compile_82 ?_
          refine g_iload_n hF d_X12_compile_85 rfl 2 rfl ?_
          refine g_callVN (As := [.int a1]) (rest := []) hF (c_X7_walk a g r σ9 a1 ⟨by have e0 := s_rng (σ9 3 3); omega, hgp9.2.2⟩ iσ9) (Nat.le_of_ble_eq_true rfl) mV_X7_walk nm_1037 (recv_ob obC_9) rfl rfl (Nat.le_of_ble_eq_true rfl) d_X12_compile_86 (k_v (fun σ11 ⟨iσ11, ik11⟩ => ?_))
          have kp : Keep [(0, 1), (0, 3), (2, 1), (2, 2), (2, 3), (2, 4), (3, 1), (3, 2), (3, 3), (3, 4), (3, 9), (4, 1), (5, 1), (5, 7), (5, 9), (5, 13), (6, 2), (6, 3), (6, 4), (6, 5), (6, 6), (6, 7), (6, 10), (6, 15), (6, 17), (7, 7), (8, 6), (8, 7), (8, 8), (8, 9), (8, 10), (8, 11), (8, 12), (8, 13), (8, 14), (8, 15), (8, 16), (9, 5)] [13, 14, 15, 16, 17, 18, 19, 20, 21, 22, 23, 24, 25, 26, 27, 28, 29, 30, 31, 32, 33, 34, 35, 36, 37, 38, 39, 40, 41, 42, 43, 44, 45, 48, 49, 50, 51, 52, 53, 54] σ0 σ11 := keep_c kp ik11 (by decide) (by decide)
          refine g_aload_n hF d_X12_compile_89 rfl 1 rfl ?_
          refine g_get (v := .ref (r 6)) hF 8 obC_0 (by decide) m_743 rfl d_X12_compile_90 ?_
          refine g_getN (v := .int (σ11 6 3)) hF 3 obC_6 (by decide) nm_316 rfl d_X12_compile_93 ?_
          refine g_if_eq hF 138 d_X12_compile_96 (by decide) rfl (fun c12_96 => ?_) (fun c12_96 => ?_)
          · -- taken at 96
            refine g_aload_n hF d_X12_compile_138 rfl 1 rfl ?_
            refine g_get (v := .ref (r 5)) hF 7 obC_0 (by decide) m_742 rfl d_X12_compile_139 ?_
            refine g_aload_n hF d_X12_compile_142 rfl 1 rfl ?_
            refine g_get (v := .ref (r 6)) hF 8 obC_0 (by decide) m_743 rfl d_X12_compile_143 ?_
            refine g_getN (v := .int (σ11 6 5)) hF 5 obC_6 (by decide) nm_321 rfl d_X12_compile_146 ?_
            refine g_callVN (As := [.int (σ11 6 5)]) (rest := []) hF (c_X8_keep a g r σ11 (σ11 6 5) (by rw [show (σ11 5 13) = (σ0 5 13) from ((ik11 5 13 rfl rfl rfl).trans ((ik9 5 13 rfl rfl rfl).trans (ik7 5 13 rfl rfl rfl)))]; show (σ0 5 13).toInt < 100; have e0 := s_rng (σ11 6 5); have e1 := s_rng (σ0 5 13); have e2 := i0.2.2.2.2.2.2.2.2.2.2.2.2.1; have e3 : (100 : Int32).toInt = 100 := (by decide); omega) iσ11) (Nat.le_of_ble_eq_true rfl) mV_X8_keep nm_1497 (recv_ob obC_5) rfl rfl (Nat.le_of_ble_eq_true rfl) d_X12_compile_149 (k_i (fun r13 σ13 ⟨iσ13, ik13⟩ => ?_))
            have kp : Keep [(0, 1), (0, 3), (2, 1), (2, 2), (2, 3), (2, 4), (3, 1), (3, 2), (3, 3), (3, 4), (3, 9), (4, 1), (5, 1), (5, 7), (5, 9), (5, 13), (6, 2), (6, 3), (6, 4), (6, 5), (6, 6), (6, 7), (6, 10), (6, 15), (6, 17), (7, 7), (8, 6), (8, 7), (8, 8), (8, 9), (8, 10), (8, 11), (8, 12), (8, 13), (8, 14), (8, 15), (8, 16), (9, 5)] [13, 14, 15, 16, 17, 18, 19, 20, 21, 22, 23, 24, 25, 26, 27, 28, 29, 30, 31, 32, 33, 34, 35, 36, 37, 38, 39, 40, 41, 42, 43, 44, 45, 48, 49, 50, 51, 52, 53, 54] σ0 σ13 := keep_c kp ik13 (by decide) (by decide)
            exact g_iret hF rfl d_X12_compile_152 ⟨rfl, rfl, r13, rfl, ⟨(by rw [show (σ13 0 1) = (0 : Int32) from ((ik13 0 1 rfl rfl rfl).trans ((ik11 0 1 rfl rfl rfl).trans ((ik9 0 1 rfl rfl rfl).trans (ik7 0 1 rfl rfl rfl))))]; show 0 = 0; have e0 := s_rng r13; have e1 : (0 : Int32).toInt = 0 := (by decide); have e2 := s_rng (σ0 0 1); have e3 := i0.1; have e4 := s_rng a1; have e5 : (3 : Int32).toInt = 3 := (by decide); have e6 := s_rng r9; have e7 := s_rng (σ11 6 3); omega), iσ13, kp⟩⟩
          · -- not taken at 96
            refine g_aload_n hF d_X12_compile_99 rfl 1 rfl ?_
            refine g_get (v := .ref (r 5)) hF 7 obC_0 (by decide) m_742 rfl d_X12_compile_100 ?_
            refine g_callVN (As := []) (rest := []) hF (c_X8_forget a g r σ11 iσ11) (Nat.le_of_ble_eq_true rfl) mV_X8_forget nm_1488 (recv_ob obC_5) rfl rfl (Nat.le_of_ble_eq_true rfl) d_X12_compile_103 (k_v (fun σ14 ⟨iσ14, ik14⟩ => ?_))
            have kp : Keep [(0, 1), (0, 3), (2, 1), (2, 2), (2, 3), (2, 4), (3, 1), (3, 2), (3, 3), (3, 4), (3, 9), (4, 1), (5, 1), (5, 7), (5, 9), (5, 13), (6, 2), (6, 3), (6, 4), (6, 5), (6, 6), (6, 7), (6, 10), (6, 15), (6, 17), (7, 7), (8, 6), (8, 7), (8, 8), (8, 9), (8, 10), (8, 11), (8, 12), (8, 13), (8, 14), (8, 15), (8, 16), (9, 5)] [13, 14, 15, 16, 17, 18, 19, 20, 21, 22, 23, 24, 25, 26, 27, 28, 29, 30, 31, 32, 33, 34, 35, 36, 37, 38, 39, 40, 41, 42, 43, 44, 45, 48, 49, 50, 51, 52, 53, 54] σ0 σ14 := keep_c kp ik14 (by decide) (by decide)
            refine g_aload_n hF d_X12_compile_106 rfl 1 rfl ?_
            refine g_aload_n hF d_X12_compile_107 rfl 1 rfl ?_
            refine g_get (v := .ref (r 2)) hF 4 obC_0 (by decide) m_739 rfl d_X12_compile_108 ?_
            refine g_getN (v := .ref (r 15)) hF 7 obC_2 (by decide) nm_57 rfl d_X12_compile_111 ?_
            refine g_aload_n hF d_X12_compile_114 rfl 1 rfl ?_
            refine g_get (v := .ref (r 6)) hF 8 obC_0 (by decide) m_743 rfl d_X12_compile_115 ?_
            refine g_getN (v := .int (σ14 6 4)) hF 4 obC_6 (by decide) nm_319 rfl d_X12_compile_118 ?_
            refine g_top (v := (σ11 6 4)) (ik14 6 4 rfl rfl rfl) ?_
            refine g_callS (As := [.ref (r 15), .int (σ11 6 4)]) (rest := [.ref (r 0)]) hF (c_at a g r σ14 arC_15 (by decide) (σ11 6 4)) (Nat.le_of_ble_eq_true rfl) mS_X12_at m_1036 rfl rfl (Nat.le_of_ble_eq_true rfl) d_X12_compile_121 (k_rop (fun r15 hr15 => ?_)) (fun _ _ _ h => h.elim)
            have hr15 : 0 ≤ r15.toInt ∧ r15.toInt ≤ 40000 := acr_at iσ14.2.2.2.2.2.2.2.2.2.2.2.2.2.2.1 (by decide) (by decide) (hr15.imp And.left (fun h => ⟨_, h.2⟩))
            refine g_put (v := r15) hF 3 obC_0 (by decide) m_738 rfl rfl rfl d_X12_compile_124 ?_
            have kp : Keep [(0, 1), (0, 3), (2, 1), (2, 2), (2, 3), (2, 4), (3, 1), (3, 2), (3, 3), (3, 4), (3, 9), (4, 1), (5, 1), (5, 7), (5, 9), (5, 13), (6, 2), (6, 3), (6, 4), (6, 5), (6, 6), (6, 7), (6, 10), (6, 15), (6, 17), (7, 7), (8, 6), (8, 7), (8, 8), (8, 9), (8, 10), (8, 11), (8, 12), (8, 13), (8, 14), (8, 15), (8, 16), (9, 5)] [13, 14, 15, 16, 17, 18, 19, 20, 21, 22, 23, 24, 25, 26, 27, 28, 29, 30, 31, 32, 33, 34, 35, 36, 37, 38, 39, 40, 41, 42, 43, 44, 45, 48, 49, 50, 51, 52, 53, 54] σ0 (upC σ14 0 3 r15) := keep_f kp (by decide)
            refine g_bipush hF (v := (-20)) d_X12_compile_127 (by decide) ?_
            refine g_aload_n hF d_X12_compile_129 rfl 1 rfl ?_
            refine g_get (v := .ref (r 6)) hF 8 obC_0 (by decide) m_743 rfl d_X12_compile_130 ?_
            refine g_getN (v := .int (σ14 6 3)) hF 3 obC_6 (by decide) nm_316 rfl d_X12_compile_133 ?_
            refine g_top (v := (σ11 6 3)) (ik14 6 3 rfl rfl rfl) ?_
            refine g_isub hF d_X12_compile_136 ?_
            have j16 : Inv (upC σ14 0 3 r15) := ⟨iσ14.1, iσ14.2.1, iσ14.2.2.1, iσ14.2.2.2.1, iσ14.2.2.2.2.1, iσ14.2.2.2.2.2.1, iσ14.2.2.2.2.2.2.1, iσ14.2.2.2.2.2.2.2.1, iσ14.2.2.2.2.2.2.2.2.1, iσ14.2.2.2.2.2.2.2.2.2.1, iσ14.2.2.2.2.2.2.2.2.2.2.1, iσ14.2.2.2.2.2.2.2.2.2.2.2.1, iσ14.2.2.2.2.2.2.2.2.2.2.2.2.1, iσ14.2.2.2.2.2.2.2.2.2.2.2.2.2.1, iσ14.2.2.2.2.2.2.2.2.2.2.2.2.2.2.1, iσ14.2.2.2.2.2.2.2.2.2.2.2.2.2.2.2.1, iσ14.2.2.2.2.2.2.2.2.2.2.2.2.2.2.2.2.1, iσ14.2.2.2.2.2.2.2.2.2.2.2.2.2.2.2.2.2.1, iσ14.2.2.2.2.2.2.2.2.2.2.2.2.2.2.2.2.2.2.1, iσ14.2.2.2.2.2.2.2.2.2.2.2.2.2.2.2.2.2.2.2⟩
            exact g_iret hF rfl d_X12_compile_137 ⟨rfl, rfl, ((-20) - (σ11 6 3)), rfl, ⟨(by rw [show ((upC σ14 0 3 r15) 0 1) = (0 : Int32) from ((ik14 0 1 rfl rfl rfl).trans ((ik11 0 1 rfl rfl rfl).trans ((ik9 0 1 rfl rfl rfl).trans (ik7 0 1 rfl rfl rfl))))]; show 0 = 0; have e0 : ((-20) : Int32).toInt = -20 := (by decide); have e1 := s_rng (σ11 6 3); obtain ⟨k2, e2⟩ := s_sub ((-20) : Int32) (σ11 6 3); have e2a := s_rng ((-20) - (σ11 6 3)); have e4 : (0 : Int32).toInt = 0 := (by decide); have e5 := s_rng (σ0 0 1); have e6 := i0.1; have e7 := s_rng a1; have e8 : (3 : Int32).toInt = 3 := (by decide); have e9 := s_rng r9; omega), j16, kp⟩⟩
        · -- not taken at 54
          refine g_aload_n hF d_X12_compile_57 rfl 1 rfl ?_
          refine g_aload_n hF d_X12_compile_58 rfl 1 rfl ?_
          refine g_get (v := .ref (r 2)) hF 4 obC_0 (by decide) m_739 rfl d_X12_compile_59 ?_
          refine g_getN (v := .ref (r 15)) hF 7 obC_2 (by decide) nm_57 rfl d_X12_compile_62 ?_
          refine g_aload_n hF d_X12_compile_65 rfl 1 rfl ?_
          refine g_get (v := .ref (r 3)) hF 5 obC_0 (by decide) m_740 rfl d_X12_compile_66 ?_
          refine g_getN (v := .int (σ9 3 3)) hF 3 obC_3 (by decide) nm_98 rfl d_X12_compile_69 ?_
          refine g_callS (As := [.ref (r 15), .int (σ9 3 3)]) (rest := [.ref (r 0)]) hF (c_at a g r σ9 arC_15 (by decide) (σ9 3 3)) (Nat.le_of_ble_eq_true rfl) mS_X12_at m_1036 rfl rfl (Nat.le_of_ble_eq_true rfl) d_X12_compile_72 (k_rop (fun r17 hr17 => ?_)) (fun _ _ _ h => h.elim)
          have hr17 : 0 ≤ r17.toInt ∧ r17.toInt ≤ 40000 := acr_at iσ9.2.2.2.2.2.2.2.2.2.2.2.2.2.2.1 (by decide) (by decide) (hr17.imp And.left (fun h => ⟨_, h.2⟩))
          refine g_put (v := r17) hF 3 obC_0 (by decide) m_738 rfl rfl rfl d_X12_compile_75 ?_
          have kp : Keep [(0, 1), (0, 3), (2, 1), (2, 2), (2, 3), (2, 4), (3, 1), (3, 2), (3, 3), (3, 4), (3, 9), (4, 1), (5, 1), (5, 7), (5, 9), (5, 13), (6, 2), (6, 3), (6, 4), (6, 5), (6, 6), (6, 7), (6, 10), (6, 15), (6, 17), (7, 7), (8, 6), (8, 7), (8, 8), (8, 9), (8, 10), (8, 11), (8, 12), (8, 13), (8, 14), (8, 15), (8, 16), (9, 5)] [13, 14, 15, 16, 17, 18, 19, 20, 21, 22, 23, 24, 25, 26, 27, 28, 29, 30, 31, 32, 33, 34, 35, 36, 37, 38, 39, 40, 41, 42, 43, 44, 45, 48, 49, 50, 51, 52, 53, 54] σ0 (upC σ9 0 3 r17) := keep_f kp (by decide)
          refine g_bipush hF (v := (-21)) d_X12_compile_78 (by decide) ?_
          have j18 : Inv (upC σ9 0 3 r17) := ⟨iσ9.1, iσ9.2.1, iσ9.2.2.1, iσ9.2.2.2.1, iσ9.2.2.2.2.1, iσ9.2.2.2.2.2.1, iσ9.2.2.2.2.2.2.1, iσ9.2.2.2.2.2.2.2.1, iσ9.2.2.2.2.2.2.2.2.1, iσ9.2.2.2.2.2.2.2.2.2.1, iσ9.2.2.2.2.2.2.2.2.2.2.1, iσ9.2.2.2.2.2.2.2.2.2.2.2.1, iσ9.2.2.2.2.2.2.2.2.2.2.2.2.1, iσ9.2.2.2.2.2.2.2.2.2.2.2.2.2.1, iσ9.2.2.2.2.2.2.2.2.2.2.2.2.2.2.1, iσ9.2.2.2.2.2.2.2.2.2.2.2.2.2.2.2.1, iσ9.2.2.2.2.2.2.2.2.2.2.2.2.2.2.2.2.1, iσ9.2.2.2.2.2.2.2.2.2.2.2.2.2.2.2.2.2.1, iσ9.2.2.2.2.2.2.2.2.2.2.2.2.2.2.2.2.2.2.1, iσ9.2.2.2.2.2.2.2.2.2.2.2.2.2.2.2.2.2.2.2⟩
          exact g_iret hF rfl d_X12_compile_80 ⟨rfl, rfl, ((-21) : Int32), rfl, ⟨(by rw [show ((upC σ9 0 3 r17) 0 1) = (0 : Int32) from ((ik9 0 1 rfl rfl rfl).trans (ik7 0 1 rfl rfl rfl))]; show 0 = 0; have e0 : ((-21) : Int32).toInt = -21 := (by decide); have e1 : (0 : Int32).toInt = 0 := (by decide); have e2 := s_rng (σ0 0 1); have e3 := i0.1; have e4 := s_rng a1; have e5 : (3 : Int32).toInt = 3 := (by decide); have e6 := s_rng r9; omega), j18, kp⟩⟩
      · -- not taken at 33
        refine g_bipush hF (v := (-14)) d_X12_compile_36 (by decide) ?_
        have j19 : Inv (upC (upC σ0 0 1 0) 0 3 (-1)) := ⟨p1, i0.2.1, i0.2.2.1, i0.2.2.2.1, i0.2.2.2.2.1, i0.2.2.2.2.2.1, i0.2.2.2.2.2.2.1, i0.2.2.2.2.2.2.2.1, i0.2.2.2.2.2.2.2.2.1, i0.2.2.2.2.2.2.2.2.2.1, i0.2.2.2.2.2.2.2.2.2.2.1, i0.2.2.2.2.2.2.2.2.2.2.2.1, i0.2.2.2.2.2.2.2.2.2.2.2.2.1, i0.2.2.2.2.2.2.2.2.2.2.2.2.2.1, i0.2.2.2.2.2.2.2.2.2.2.2.2.2.2.1, i0.2.2.2.2.2.2.2.2.2.2.2.2.2.2.2.1, i0.2.2.2.2.2.2.2.2.2.2.2.2.2.2.2.2.1, i0.2.2.2.2.2.2.2.2.2.2.2.2.2.2.2.2.2.1, i0.2.2.2.2.2.2.2.2.2.2.2.2.2.2.2.2.2.2.1, i0.2.2.2.2.2.2.2.2.2.2.2.2.2.2.2.2.2.2.2⟩
        exact g_iret hF rfl d_X12_compile_38 ⟨rfl, rfl, ((-14) : Int32), rfl, ⟨(by show 0 = 0; have e0 : ((-14) : Int32).toInt = -14 := (by decide); have e1 : (0 : Int32).toInt = 0 := (by decide); have e2 := s_rng (σ0 0 1); have e3 := i0.1; have e4 := s_rng a1; have e5 : (3 : Int32).toInt = 3 := (by decide); omega), j19, kp⟩⟩
