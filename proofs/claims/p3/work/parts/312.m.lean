set_option maxHeartbeats 4000000 in
set_option maxRecDepth 100000 in
theorem c_X10_readCodes (a : Nat → Nat) (g : Nat → Nat → Int32) (r : Nat → Nat) (σ0 : St) (a1 : Int32) (i0 : Inv σ0) (l : Launch) (D : va_G) (cy : Nat → ClassId) : Ct l D cy SC r (EC a g) y_X10_readCodes (Cond.code y_X10_readCodes b_X10_readCodes 5 (some .int)) 2 [.ref (r 2), .int a1] σ0 Z0 [] (QI (fun _ σ9 => (Inv σ9 ∧ Keep [] [17] σ0 σ9))) QF := by
  refine Ct_of (EC_ok a g) (by decide) (Nat.le_of_ble_eq_true rfl) (by decide) (fun X hnn hF => ?_)
  show G SC r X σ0 Z0 [] [(0, .ref (r 2)), (1, .int a1)] [] 0
  have b29 : ∀ (N : Nat) (σ : St) (x1 : Int32) (x2 : Int32) (x3 : Int32) (x4 : Int32) , upm x4 = N → Inv σ → Keep [] [17] σ0 σ → G SC r X σ Z0 [] [(0, .ref (r 2)), (1, .int x1), (2, .int x2), (3, .int x3), (4, .int x4)] [] 29 := by
    intro M29
    induction M29 using Nat.strongRecOn with
    | _ M29 ih29 =>
      intro σ x1 x2 x3 x4 N29 inv kp
      refine g_iload hF d_X10_readCodes_29 4 rfl ?_
      refine g_iload_n hF d_X10_readCodes_31 rfl 2 rfl ?_
      refine g_icmp_ge hF 65 d_X10_readCodes_32 (by decide) rfl rfl (fun c1_32 => ?_) (fun c1_32 => ?_)
      · -- taken at 32
        refine g_iload_n hF d_X10_readCodes_65 rfl 2 rfl ?_
        exact g_iret hF rfl d_X10_readCodes_66 ⟨rfl, rfl, x2, rfl, ⟨inv, kp⟩⟩
      · -- not taken at 32
        refine g_aload_n hF d_X10_readCodes_35 rfl 0 rfl ?_
        refine g_get (v := .ref (r 17)) hF 9 obC_2 (by decide) m_62 rfl d_X10_readCodes_36 ?_
        refine g_iload hF d_X10_readCodes_39 4 rfl ?_
        refine g_aload_n hF d_X10_readCodes_41 rfl 0 rfl ?_
        refine g_iload_n hF d_X10_readCodes_42 rfl 3 rfl ?_
        refine g_bipush hF (v := 34) d_X10_readCodes_43 (by decide) ?_
        refine g_callV (As := [.int x3, .int 34]) (rest := [.int x4, .ref (r 17)]) hF (c_X10_codeAt a g r σ x3 (34 : Int32) inv) (Nat.le_of_ble_eq_true rfl) mV_X10_codeAt m_875 (recv_ob obC_2) rfl rfl (Nat.le_of_ble_eq_true rfl) d_X10_readCodes_45 (k_ro (fun r2 => ?_)) (fun _ _ _ h => h.elim)
        refine g_callSN (As := [.ref (r 17), .int x4, .int r2]) (rest := []) hF (c_set a g r σ arC_17 (by decide) x4 r2) (Nat.le_of_ble_eq_true rfl) mS_X12_set nm_1089 rfl rfl (Nat.le_of_ble_eq_true rfl) d_X10_readCodes_48 (k_v (fun σ3 ⟨g3, eσ3, hg3⟩ => ?_))
        subst eσ3
        have kp : Keep [] [17] σ0 (upF σ 17 g3) := keep_F kp (by decide)
        refine g_iload_n hF d_X10_readCodes_51 rfl 3 rfl ?_
        refine g_aload_n hF d_X10_readCodes_52 rfl 0 rfl ?_
        refine g_iload_n hF d_X10_readCodes_53 rfl 3 rfl ?_
        have j5 : Inv (upF σ 17 g3) := ⟨inv.1, inv.2.1, inv.2.2.1, inv.2.2.2.1, inv.2.2.2.2.1, inv.2.2.2.2.2.1, inv.2.2.2.2.2.2.1, inv.2.2.2.2.2.2.2.1, inv.2.2.2.2.2.2.2.2.1, inv.2.2.2.2.2.2.2.2.2.1, inv.2.2.2.2.2.2.2.2.2.2.1, inv.2.2.2.2.2.2.2.2.2.2.2.1, inv.2.2.2.2.2.2.2.2.2.2.2.2.1, inv.2.2.2.2.2.2.2.2.2.2.2.2.2.1, inv.2.2.2.2.2.2.2.2.2.2.2.2.2.2.1, inv.2.2.2.2.2.2.2.2.2.2.2.2.2.2.2.1, inv.2.2.2.2.2.2.2.2.2.2.2.2.2.2.2.2.1, inv.2.2.2.2.2.2.2.2.2.2.2.2.2.2.2.2.2.1, inv.2.2.2.2.2.2.2.2.2.2.2.2.2.2.2.2.2.2.1, inv.2.2.2.2.2.2.2.2.2.2.2.2.2.2.2.2.2.2.2⟩
        refine g_callV (As := [.int x3]) (rest := [.int x3]) hF (c_X10_widthAt a g r (upF σ 17 g3) x3 j5) (Nat.le_of_ble_eq_true rfl) mV_X10_widthAt m_879 (recv_ob obC_2) rfl rfl (Nat.le_of_ble_eq_true rfl) d_X10_readCodes_54 (k_rop (fun r4 hp4 => ?_)) (fun _ _ _ h => h.elim)
        have hp4 : 1 ≤ r4.toInt ∧ r4.toInt ≤ 2 := hp4
        refine g_iadd hF d_X10_readCodes_57 ?_
        refine g_istore_n hF [(3, .int (x3 + r4)), (0, .ref (r 2)), (1, .int x1), (2, .int x2), (4, .int x4)] d_X10_readCodes_58 rfl hnn (by decide) rfl ?_
        refine g_iinc hF (x4 + 1) [(4, .int (x4 + 1)), (3, .int (x3 + r4)), (0, .ref (r 2)), (1, .int x1), (2, .int x2)] d_X10_readCodes_59 4 rfl rfl hnn (by decide) rfl ?_
        refine g_goto hF 29 d_X10_readCodes_62 (by decide) ?_
        exact g_sub (L' := [(0, .ref (r 2)), (1, .int x1), (2, .int x2), (3, .int (x3 + r4)), (4, .int (x4 + 1))]) [2, 3, 4, 1, 0] rfl (ih29 _ (N29 ▸ upm_lt c1_32 (s_rng x2).2) (upF σ 17 g3) x1 x2 (x3 + r4) (x4 + 1) rfl j5 kp)
  have kp : Keep [] [17] σ0 σ0 := keep_rf
  refine g_aload_n hF d_X10_readCodes_0 rfl 0 rfl ?_
  refine g_get (v := .ref (r 14)) hF 6 obC_2 (by decide) m_52 rfl d_X10_readCodes_1 ?_
  refine g_iload_n hF d_X10_readCodes_4 rfl 1 rfl ?_
  refine g_callSN (As := [.ref (r 14), .int a1]) (rest := []) hF (c_at a g r σ0 arC_14 (by decide) a1) (Nat.le_of_ble_eq_true rfl) mS_X12_at nm_1085 rfl rfl (Nat.le_of_ble_eq_true rfl) d_X10_readCodes_5 (k_rop (fun r6 hr6 => ?_))
  have hs6 := hr6
  refine g_sipush hF (v := 200) d_X10_readCodes_8 (by decide) ?_
  refine g_mmin hF (Nat.le_of_ble_eq_true rfl) m_1086 m_1087 m_23 m_1088 (Nat.le_of_ble_eq_true rfl) d_X10_readCodes_11 ?_
  refine g_nm (fun v8 ev8 => ?_)
  have mv8 := s_min ev8
  refine g_istore_n hF [(2, .int v8), (0, .ref (r 2)), (1, .int a1)] d_X10_readCodes_14 rfl hnn (by decide) rfl ?_
  refine g_aload_n hF d_X10_readCodes_15 rfl 1 rfl ?_
  refine g_get (v := .ref (r 15)) hF 7 obC_2 (by decide) m_56 rfl d_X10_readCodes_16 ?_
  refine g_iload_n hF d_X10_readCodes_19 rfl 2 rfl ?_
  refine g_callSN (As := [.ref (r 15), .int a1]) (rest := []) hF (c_at a g r σ0 arC_15 (by decide) a1) (Nat.le_of_ble_eq_true rfl) mS_X12_at nm_1085 rfl rfl (Nat.le_of_ble_eq_true rfl) d_X10_readCodes_20 (k_rop (fun r9 hr9 => ?_))
  have hr9 : 0 ≤ r9.toInt ∧ r9.toInt ≤ 40000 := acr_at i0.2.2.2.2.2.2.2.2.2.2.2.2.2.2.1 (by decide) (by decide) (hr9.imp And.left (fun h => ⟨_, h.2⟩))
  refine g_iconst hF (v := 1) d_X10_readCodes_23 (by decide) ?_
  refine g_iadd hF d_X10_readCodes_24 ?_
  refine g_istore_n hF [(3, .int (r9 + 1)), (2, .int v8), (0, .ref (r 2)), (1, .int a1)] d_X10_readCodes_25 rfl hnn (by decide) rfl ?_
  refine g_iconst hF (v := 0) d_X10_readCodes_26 (by decide) ?_
  refine g_istore hF [(4, .int 0), (3, .int (r9 + 1)), (2, .int v8), (0, .ref (r 2)), (1, .int a1)] d_X10_readCodes_27 hnn (by decide) rfl ?_
  exact g_sub (L' := [(0, .ref (r 2)), (1, .int a1), (2, .int v8), (3, .int (r9 + 1)), (4, .int 0)]) [3, 4, 2, 1, 0] rfl (b29 _ σ0 a1 v8 (r9 + 1) (0 : Int32) rfl i0 kp)
set_option maxHeartbeats 4000000 in
set_option maxRecDepth 100000 in
theorem c_X8_addInitial (a : Nat → Nat) (g : Nat → Nat → Int32) (r : Nat → Nat) (σ0 : St) (a1 : Int32) (a2 : Int32) (a3 : Int32) (i0 : Inv σ0) (l : Launch) (D : va_G) (cy : Nat → ClassId) : Ct l D cy SC r (EC a g) y_X8_addInitial (Cond.code y_X8_addInitial b_X8_addInitial 4 none) 1 [.ref (r 5), .int a1, .int a2, .int a3] σ0 Z0 [] (QV (fun σ9 => (Inv σ9 ∧ Keep [(5, 9)] [31, 32, 33] σ0 σ9))) QF := by
  refine Ct_of (EC_ok a g) (by decide) (Nat.le_of_ble_eq_true rfl) (by decide) (fun X hnn hF => ?_)
  show G SC r X σ0 Z0 [] [(0, .ref (r 5)), (1, .int a1), (2, .int a2), (3, .int a3)] [] 0
  have kp : Keep [(5, 9)] [31, 32, 33] σ0 σ0 := keep_rf
  refine g_aload_n hF d_X8_addInitial_0 rfl 0 rfl ?_
  refine g_get (v := .ref (r 31)) hF 10 obC_5 (by decide) m_243 rfl d_X8_addInitial_1 ?_
  refine g_aload_n hF d_X8_addInitial_4 rfl 0 rfl ?_
  refine g_get (v := .int (σ0 5 9)) hF 9 obC_5 (by decide) m_242 rfl d_X8_addInitial_5 ?_
  refine g_iload_n hF d_X8_addInitial_8 rfl 1 rfl ?_
  refine g_callSN (As := [.ref (r 31), .int (σ0 5 9), .int a1]) (rest := []) hF (c_set a g r σ0 arC_31 (by decide) (σ0 5 9) a1) (Nat.le_of_ble_eq_true rfl) mS_X12_set nm_1098 rfl rfl (Nat.le_of_ble_eq_true rfl) d_X8_addInitial_9 (k_v (fun σ1 ⟨g1, eσ1, hg1⟩ => ?_))
  subst eσ1
  have kp : Keep [(5, 9)] [31, 32, 33] σ0 (upF σ0 31 g1) := keep_F kp (by decide)
  refine g_aload_n hF d_X8_addInitial_12 rfl 0 rfl ?_
  refine g_get (v := .ref (r 32)) hF 11 obC_5 (by decide) m_245 rfl d_X8_addInitial_13 ?_
  refine g_aload_n hF d_X8_addInitial_16 rfl 0 rfl ?_
  refine g_get (v := .int (σ0 5 9)) hF 9 obC_5 (by decide) m_242 rfl d_X8_addInitial_17 ?_
  refine g_iload_n hF d_X8_addInitial_20 rfl 2 rfl ?_
  refine g_callSN (As := [.ref (r 32), .int (σ0 5 9), .int a2]) (rest := []) hF (c_set a g r (upF σ0 31 g1) arC_32 (by decide) (σ0 5 9) a2) (Nat.le_of_ble_eq_true rfl) mS_X12_set nm_1098 rfl rfl (Nat.le_of_ble_eq_true rfl) d_X8_addInitial_21 (k_v (fun σ2 ⟨g2, eσ2, hg2⟩ => ?_))
  subst eσ2
  have kp : Keep [(5, 9)] [31, 32, 33] σ0 (upF (upF σ0 31 g1) 32 g2) := keep_F kp (by decide)
  refine g_aload_n hF d_X8_addInitial_24 rfl 0 rfl ?_
  refine g_get (v := .ref (r 33)) hF 12 obC_5 (by decide) m_247 rfl d_X8_addInitial_25 ?_
  refine g_aload_n hF d_X8_addInitial_28 rfl 0 rfl ?_
  refine g_get (v := .int (σ0 5 9)) hF 9 obC_5 (by decide) m_242 rfl d_X8_addInitial_29 ?_
  refine g_iload_n hF d_X8_addInitial_32 rfl 3 rfl ?_
  refine g_callSN (As := [.ref (r 33), .int (σ0 5 9), .int a3]) (rest := []) hF (c_set a g r (upF (upF σ0 31 g1) 32 g2) arC_33 (by decide) (σ0 5 9) a3) (Nat.le_of_ble_eq_true rfl) mS_X12_set nm_1098 rfl rfl (Nat.le_of_ble_eq_true rfl) d_X8_addInitial_33 (k_v (fun σ3 ⟨g3, eσ3, hg3⟩ => ?_))
  subst eσ3
  have kp : Keep [(5, 9)] [31, 32, 33] σ0 (upF (upF (upF σ0 31 g1) 32 g2) 33 g3) := keep_F kp (by decide)
  refine g_aload_n hF d_X8_addInitial_36 rfl 0 rfl ?_
  refine g_aload_n hF d_X8_addInitial_37 rfl 0 rfl ?_
  refine g_get (v := .int (σ0 5 9)) hF 9 obC_5 (by decide) m_242 rfl d_X8_addInitial_38 ?_
  refine g_iconst hF (v := 1) d_X8_addInitial_41 (by decide) ?_
  refine g_iadd hF d_X8_addInitial_42 ?_
  refine g_ldc (v := 65536) hF m_169 d_X8_addInitial_43 ?_
  refine g_mmin hF (Nat.le_of_ble_eq_true rfl) m_1099 m_1087 m_23 m_1088 (Nat.le_of_ble_eq_true rfl) d_X8_addInitial_45 ?_
  refine g_nm (fun v5 ev5 => ?_)
  have mv5 := s_min ev5
  refine g_put (v := v5) hF 9 obC_5 (by decide) m_242 rfl rfl rfl d_X8_addInitial_48 ?_
  have kp : Keep [(5, 9)] [31, 32, 33] σ0 (upC (upF (upF (upF σ0 31 g1) 32 g2) 33 g3) 5 9 v5) := keep_f kp (by decide)
  have j6 : Inv (upC (upF (upF (upF σ0 31 g1) 32 g2) 33 g3) 5 9 v5) := ⟨i0.1, i0.2.1, i0.2.2.1, i0.2.2.2.1, i0.2.2.2.2.1, i0.2.2.2.2.2.1, i0.2.2.2.2.2.2.1, i0.2.2.2.2.2.2.2.1, i0.2.2.2.2.2.2.2.2.1, i0.2.2.2.2.2.2.2.2.2.1, i0.2.2.2.2.2.2.2.2.2.2.1, i0.2.2.2.2.2.2.2.2.2.2.2.1, i0.2.2.2.2.2.2.2.2.2.2.2.2.1, i0.2.2.2.2.2.2.2.2.2.2.2.2.2.1, i0.2.2.2.2.2.2.2.2.2.2.2.2.2.2.1, i0.2.2.2.2.2.2.2.2.2.2.2.2.2.2.2.1, i0.2.2.2.2.2.2.2.2.2.2.2.2.2.2.2.2.1, i0.2.2.2.2.2.2.2.2.2.2.2.2.2.2.2.2.2.1, i0.2.2.2.2.2.2.2.2.2.2.2.2.2.2.2.2.2.2.1, i0.2.2.2.2.2.2.2.2.2.2.2.2.2.2.2.2.2.2.2⟩
  exact g_vret hF rfl d_X8_addInitial_51 ⟨rfl, rfl, rfl, ⟨j6, kp⟩⟩
set_option maxHeartbeats 4000000 in
set_option maxRecDepth 100000 in
theorem c_X0_cut (a : Nat → Nat) (g : Nat → Nat → Int32) (r : Nat → Nat) (σ0 : St) (a1 : Int32) (i0 : Inv σ0) (l : Launch) (D : va_G) (cy : Nat → ClassId) : Ct l D cy SC r (EC a g) y_X0_cut (Cond.code y_X0_cut b_X0_cut 2 none) 1 [.ref (r 4), .int a1] σ0 Z0 [] (QV (fun σ9 => (Inv σ9 ∧ Keep [(4, 1)] [] σ0 σ9))) QF := by
  refine Ct_of (EC_ok a g) (by decide) (Nat.le_of_ble_eq_true rfl) (by decide) (fun X hnn hF => ?_)
  show G SC r X σ0 Z0 [] [(0, .ref (r 4)), (1, .int a1)] [] 0
  have kp : Keep [(4, 1)] [] σ0 σ0 := keep_rf
  refine g_aload_n hF d_X0_cut_0 rfl 0 rfl ?_
  refine g_iload_n hF d_X0_cut_1 rfl 1 rfl ?_
  refine g_aload_n hF d_X0_cut_2 rfl 0 rfl ?_
  refine g_get (v := .int (σ0 4 1)) hF 1 obC_4 (by decide) m_152 rfl d_X0_cut_3 ?_
  refine g_mmin hF (Nat.le_of_ble_eq_true rfl) m_1241 m_1087 m_23 m_1088 (Nat.le_of_ble_eq_true rfl) d_X0_cut_6 ?_
  refine g_nm (fun v2 ev2 => ?_)
  have mv2 := s_min ev2
  refine g_put (v := v2) hF 1 obC_4 (by decide) m_152 rfl rfl rfl d_X0_cut_9 ?_
  have kp : Keep [(4, 1)] [] σ0 (upC σ0 4 1 v2) := keep_f kp (by decide)
  have j3 : Inv (upC σ0 4 1 v2) := ⟨i0.1, i0.2.1, i0.2.2.1, i0.2.2.2.1, i0.2.2.2.2.1, i0.2.2.2.2.2.1, i0.2.2.2.2.2.2.1, i0.2.2.2.2.2.2.2.1, i0.2.2.2.2.2.2.2.2.1, i0.2.2.2.2.2.2.2.2.2.1, i0.2.2.2.2.2.2.2.2.2.2.1, i0.2.2.2.2.2.2.2.2.2.2.2.1, i0.2.2.2.2.2.2.2.2.2.2.2.2.1, i0.2.2.2.2.2.2.2.2.2.2.2.2.2.1, i0.2.2.2.2.2.2.2.2.2.2.2.2.2.2.1, i0.2.2.2.2.2.2.2.2.2.2.2.2.2.2.2.1, i0.2.2.2.2.2.2.2.2.2.2.2.2.2.2.2.2.1, i0.2.2.2.2.2.2.2.2.2.2.2.2.2.2.2.2.2.1, i0.2.2.2.2.2.2.2.2.2.2.2.2.2.2.2.2.2.2.1, i0.2.2.2.2.2.2.2.2.2.2.2.2.2.2.2.2.2.2.2⟩
  exact g_vret hF rfl d_X0_cut_12 ⟨rfl, rfl, rfl, ⟨j3, kp⟩⟩
set_option maxHeartbeats 4000000 in
set_option maxRecDepth 100000 in
theorem c_X2_unless (a : Nat → Nat) (g : Nat → Nat → Int32) (r : Nat → Nat) (σ0 : St) (a2 : Int32) (qa1 : Nat) (hqa1 : isOp qa1) (i0 : Inv σ0) (l : Launch) (D : va_G) (cy : Nat → ClassId) : Ct l D cy SC r (EC a g) y_X2_unless (Cond.code y_X2_unless b_X2_unless 3 (some .int)) 2 [.ref (r 7), .ref (r qa1), .int a2] σ0 Z0 [] (QI (fun _ σ9 => (Inv σ9 ∧ Keep [(4, 1)] [24] σ0 σ9))) QF := by
  refine Ct_of (EC_ok a g) (by decide) (Nat.le_of_ble_eq_true rfl) (by decide) (fun X hnn hF => ?_)
  show G SC r X σ0 Z0 [] [(0, .ref (r 7)), (1, .ref (r qa1)), (2, .int a2)] [] 0
  have kp : Keep [(4, 1)] [24] σ0 σ0 := keep_rf
  refine g_aload_n hF d_X2_unless_0 rfl 0 rfl ?_
  refine g_get (v := .ref (r 6)) hF 2 obC_7 (by decide) m_458 rfl d_X2_unless_1 ?_
  refine g_getN (v := .int (σ0 6 2)) hF 2 obC_6 (by decide) nm_313 rfl d_X2_unless_4 ?_
  refine g_iconst hF (v := 2) d_X2_unless_7 (by decide) ?_
  refine g_icmp_le (yv := 2) hF 53 d_X2_unless_8 (by decide) rfl (by decide) (fun c1_8 => ?_) (fun c1_8 => ?_)
  · -- taken at 8
    refine g_aload_n hF d_X2_unless_53 rfl 0 rfl ?_
    refine g_get (v := .ref (r 4)) hF 4 obC_7 (by decide) m_461 rfl d_X2_unless_54 ?_
    refine g_bipush hF (v := 27) d_X2_unless_57 (by decide) ?_
    refine g_iload_n hF d_X2_unless_59 rfl 2 rfl ?_
    refine g_iconst hF (v := 0) d_X2_unless_60 (by decide) ?_
    refine g_iconst hF (v := 0) d_X2_unless_61 (by decide) ?_
    refine g_callVN (As := [.int 27, .int a2, .int 0, .int 0]) (rest := []) hF (c_X0_emit a g r σ0 (27 : Int32) a2 (0 : Int32) (0 : Int32) i0) (Nat.le_of_ble_eq_true rfl) mV_X0_emit nm_1071 (recv_ob obC_4) rfl rfl (Nat.le_of_ble_eq_true rfl) d_X2_unless_62 (k_i (fun r2 σ2 ⟨iσ2, ik2⟩ => ?_))
    have kp : Keep [(4, 1)] [24] σ0 σ2 := keep_c kp ik2 (by decide) (by decide)
    exact g_iret hF rfl d_X2_unless_65 ⟨rfl, rfl, r2, rfl, ⟨iσ2, kp⟩⟩
  · -- not taken at 8
    refine g_aload_n hF d_X2_unless_11 rfl 1 rfl ?_
    refine g_callVN (As := []) (rest := []) hF (c_X6_isConstant a g r σ0 qa1 hqa1 i0) (Nat.le_of_ble_eq_true rfl) mV_X6_isConstant nm_1222 (recv_ob (obC_op hqa1)) rfl rfl (Nat.le_of_ble_eq_true rfl) d_X2_unless_12 (k_roz (fun r3 hz3 => ?_))
    refine g_if_eq hF 53 d_X2_unless_15 (by decide) rfl (fun c4_15 => ?_) (fun c4_15 => ?_)
    · -- taken at 15
      refine g_aload_n hF d_X2_unless_53 rfl 0 rfl ?_
      refine g_get (v := .ref (r 4)) hF 4 obC_7 (by decide) m_461 rfl d_X2_unless_54 ?_
      refine g_bipush hF (v := 27) d_X2_unless_57 (by decide) ?_
      refine g_iload_n hF d_X2_unless_59 rfl 2 rfl ?_
      refine g_iconst hF (v := 0) d_X2_unless_60 (by decide) ?_
      refine g_iconst hF (v := 0) d_X2_unless_61 (by decide) ?_
      refine g_callVN (As := [.int 27, .int a2, .int 0, .int 0]) (rest := []) hF (c_X0_emit a g r σ0 (27 : Int32) a2 (0 : Int32) (0 : Int32) i0) (Nat.le_of_ble_eq_true rfl) mV_X0_emit nm_1071 (recv_ob obC_4) rfl rfl (Nat.le_of_ble_eq_true rfl) d_X2_unless_62 (k_i (fun r5 σ5 ⟨iσ5, ik5⟩ => ?_))
      have kp : Keep [(4, 1)] [24] σ0 σ5 := keep_c kp ik5 (by decide) (by decide)
      exact g_iret hF rfl d_X2_unless_65 ⟨rfl, rfl, r5, rfl, ⟨iσ5, kp⟩⟩
    · -- not taken at 15
      refine g_aload_n hF d_X2_unless_18 rfl 0 rfl ?_
      refine g_get (v := .ref (r 4)) hF 4 obC_7 (by decide) m_461 rfl d_X2_unless_19 ?_
      refine g_aload_n hF d_X2_unless_22 rfl 1 rfl ?_
      refine g_getN hF 9 (obC_op hqa1) (by decide) nm_422 (fval_op hqa1) d_X2_unless_23 ?_
      refine g_any (fun v6 => ?_)
      refine g_callVN (As := [.int v6]) (rest := []) hF (c_X0_cut a g r σ0 v6 i0) (Nat.le_of_ble_eq_true rfl) mV_X0_cut nm_1237 (recv_ob obC_4) rfl rfl (Nat.le_of_ble_eq_true rfl) d_X2_unless_26 (k_v (fun σ7 ⟨iσ7, ik7⟩ => ?_))
      have kp : Keep [(4, 1)] [24] σ0 σ7 := keep_c kp ik7 (by decide) (by decide)
      refine g_aload_n hF d_X2_unless_29 rfl 1 rfl ?_
      refine g_getN hF 8 (obC_op hqa1) (by decide) nm_418 (fval_op hqa1) d_X2_unless_30 ?_
      refine g_any (fun v8 => ?_)
      refine g_if_eq hF 40 d_X2_unless_33 (by decide) rfl (fun c9_33 => ?_) (fun c9_33 => ?_)
      · -- taken at 33
        refine g_aload_n hF d_X2_unless_40 rfl 0 rfl ?_
        refine g_get (v := .ref (r 4)) hF 4 obC_7 (by decide) m_461 rfl d_X2_unless_41 ?_
        refine g_bipush hF (v := 26) d_X2_unless_44 (by decide) ?_
        refine g_iload_n hF d_X2_unless_46 rfl 2 rfl ?_
        refine g_iconst hF (v := 0) d_X2_unless_47 (by decide) ?_
        refine g_iconst hF (v := 0) d_X2_unless_48 (by decide) ?_
        refine g_callVN (As := [.int 26, .int a2, .int 0, .int 0]) (rest := []) hF (c_X0_emit a g r σ7 (26 : Int32) a2 (0 : Int32) (0 : Int32) iσ7) (Nat.le_of_ble_eq_true rfl) mV_X0_emit nm_1071 (recv_ob obC_4) rfl rfl (Nat.le_of_ble_eq_true rfl) d_X2_unless_49 (k_i (fun r10 σ10 ⟨iσ10, ik10⟩ => ?_))
        have kp : Keep [(4, 1)] [24] σ0 σ10 := keep_c kp ik10 (by decide) (by decide)
        exact g_iret hF rfl d_X2_unless_52 ⟨rfl, rfl, r10, rfl, ⟨iσ10, kp⟩⟩
      · -- not taken at 33
        refine g_iload_n hF d_X2_unless_36 rfl 2 rfl ?_
        refine g_goto hF 52 d_X2_unless_37 (by decide) ?_
        exact g_iret hF rfl d_X2_unless_52 ⟨rfl, rfl, a2, rfl, ⟨iσ7, kp⟩⟩
set_option maxHeartbeats 4000000 in
set_option maxRecDepth 100000 in
theorem c_X7_exitUnless (a : Nat → Nat) (g : Nat → Nat → Int32) (r : Nat → Nat) (σ0 : St) (qa1 : Nat) (hqa1 : isOp qa1) (i0 : Inv σ0) (l : Launch) (D : va_G) (cy : Nat → ClassId) : Ct l D cy SC r (EC a g) y_X7_exitUnless (Cond.code y_X7_exitUnless b_X7_exitUnless 2 none) 3 [.ref (r 9), .ref (r qa1)] σ0 Z0 [] (QV (fun σ9 => (Inv σ9 ∧ Keep [(4, 1)] [24, 51] σ0 σ9))) QF := by
  refine Ct_of (EC_ok a g) (by decide) (Nat.le_of_ble_eq_true rfl) (by decide) (fun X hnn hF => ?_)
  show G SC r X σ0 Z0 [] [(0, .ref (r 9)), (1, .ref (r qa1))] [] 0
  have kp : Keep [(4, 1)] [24, 51] σ0 σ0 := keep_rf
  refine g_aload_n hF d_X7_exitUnless_0 rfl 0 rfl ?_
  refine g_get (v := .ref (r 51)) hF 8 obC_9 (by decide) m_561 rfl d_X7_exitUnless_1 ?_
  refine g_aload_n hF d_X7_exitUnless_4 rfl 0 rfl ?_
  refine g_get (v := .int (σ0 9 5)) hF 5 obC_9 (by decide) m_558 rfl d_X7_exitUnless_5 ?_
  refine g_iconst hF (v := 1) d_X7_exitUnless_8 (by decide) ?_
  refine g_isub hF d_X7_exitUnless_9 ?_
  refine g_aload_n hF d_X7_exitUnless_10 rfl 0 rfl ?_
  refine g_get (v := .ref (r 7)) hF 3 obC_9 (by decide) m_556 rfl d_X7_exitUnless_11 ?_
  refine g_aload_n hF d_X7_exitUnless_14 rfl 1 rfl ?_
  refine g_aload_n hF d_X7_exitUnless_15 rfl 0 rfl ?_
  refine g_get (v := .ref (r 51)) hF 8 obC_9 (by decide) m_561 rfl d_X7_exitUnless_16 ?_
  refine g_aload_n hF d_X7_exitUnless_19 rfl 0 rfl ?_
  refine g_get (v := .int (σ0 9 5)) hF 5 obC_9 (by decide) m_558 rfl d_X7_exitUnless_20 ?_
  refine g_iconst hF (v := 1) d_X7_exitUnless_23 (by decide) ?_
  refine g_isub hF d_X7_exitUnless_24 ?_
  refine g_callSN (As := [.ref (r 51), .int ((σ0 9 5) - 1)]) (rest := [.ref (r qa1), .ref (r 7), .int ((σ0 9 5) - 1), .ref (r 51)]) hF (c_at a g r σ0 arC_51 (by decide) ((σ0 9 5) - 1)) (Nat.le_of_ble_eq_true rfl) mS_X12_at nm_1053 rfl rfl (Nat.le_of_ble_eq_true rfl) d_X7_exitUnless_25 (k_rop (fun r1 hr1 => ?_))
  refine g_callVN (As := [.ref (r qa1), .int r1]) (rest := [.int ((σ0 9 5) - 1), .ref (r 51)]) hF (c_X2_unless a g r σ0 r1 qa1 hqa1 i0) (Nat.le_of_ble_eq_true rfl) mV_X2_unless nm_1317 (recv_ob obC_7) rfl rfl (Nat.le_of_ble_eq_true rfl) d_X7_exitUnless_28 (k_i (fun r2 σ2 ⟨iσ2, ik2⟩ => ?_))
  have kp : Keep [(4, 1)] [24, 51] σ0 σ2 := keep_c kp ik2 (by decide) (by decide)
  refine g_callSN (As := [.ref (r 51), .int ((σ0 9 5) - 1), .int r2]) (rest := []) hF (c_set a g r σ2 arC_51 (by decide) ((σ0 9 5) - 1) r2) (Nat.le_of_ble_eq_true rfl) mS_X12_set nm_1312 rfl rfl (Nat.le_of_ble_eq_true rfl) d_X7_exitUnless_31 (k_v (fun σ3 ⟨g3, eσ3, hg3⟩ => ?_))
  subst eσ3
  have kp : Keep [(4, 1)] [24, 51] σ0 (upF σ2 51 g3) := keep_F kp (by decide)
  have j4 : Inv (upF σ2 51 g3) := ⟨iσ2.1, iσ2.2.1, iσ2.2.2.1, iσ2.2.2.2.1, iσ2.2.2.2.2.1, iσ2.2.2.2.2.2.1, iσ2.2.2.2.2.2.2.1, iσ2.2.2.2.2.2.2.2.1, iσ2.2.2.2.2.2.2.2.2.1, iσ2.2.2.2.2.2.2.2.2.2.1, iσ2.2.2.2.2.2.2.2.2.2.2.1, iσ2.2.2.2.2.2.2.2.2.2.2.2.1, iσ2.2.2.2.2.2.2.2.2.2.2.2.2.1, iσ2.2.2.2.2.2.2.2.2.2.2.2.2.2.1, iσ2.2.2.2.2.2.2.2.2.2.2.2.2.2.2.1, iσ2.2.2.2.2.2.2.2.2.2.2.2.2.2.2.2.1, iσ2.2.2.2.2.2.2.2.2.2.2.2.2.2.2.2.2.1, iσ2.2.2.2.2.2.2.2.2.2.2.2.2.2.2.2.2.2.1, iσ2.2.2.2.2.2.2.2.2.2.2.2.2.2.2.2.2.2.2.1, iσ2.2.2.2.2.2.2.2.2.2.2.2.2.2.2.2.2.2.2.2⟩
  exact g_vret hF rfl d_X7_exitUnless_34 ⟨rfl, rfl, rfl, ⟨j4, kp⟩⟩
set_option maxHeartbeats 4000000 in
set_option maxRecDepth 100000 in
theorem c_X1_putInitial (a : Nat → Nat) (g : Nat → Nat → Int32) (r : Nat → Nat) (σ0 : St) (a1 : Int32) (qa2 : Nat) (hqa2 : isOp qa2) (i0 : Inv σ0) (l : Launch) (D : va_G) (cy : Nat → ClassId) : Ct l D cy SC r (EC a g) y_X1_putInitial (Cond.code y_X1_putInitial b_X1_putInitial 3 none) 2 [.ref (r 8), .int a1, .ref (r qa2)] σ0 Z0 [] (QV (fun σ9 => (Inv σ9 ∧ Keep [(4, 1), (5, 9)] [31, 32, 33] σ0 σ9))) QF := by
  refine Ct_of (EC_ok a g) (by decide) (Nat.le_of_ble_eq_true rfl) (by decide) (fun X hnn hF => ?_)
  show G SC r X σ0 Z0 [] [(0, .ref (r 8)), (1, .int a1), (2, .ref (r qa2))] [] 0
  have kp : Keep [(4, 1), (5, 9)] [31, 32, 33] σ0 σ0 := keep_rf
  refine g_aload_n hF d_X1_putInitial_0 rfl 0 rfl ?_
  refine g_get (v := .ref (r 4)) hF 4 obC_8 (by decide) m_493 rfl d_X1_putInitial_1 ?_
  refine g_aload_n hF d_X1_putInitial_4 rfl 2 rfl ?_
  refine g_getN hF 9 (obC_op hqa2) (by decide) nm_421 (fval_op hqa2) d_X1_putInitial_5 ?_
  refine g_any (fun v1 => ?_)
  refine g_callVN (As := [.int v1]) (rest := []) hF (c_X0_cut a g r σ0 v1 i0) (Nat.le_of_ble_eq_true rfl) mV_X0_cut nm_1429 (recv_ob obC_4) rfl rfl (Nat.le_of_ble_eq_true rfl) d_X1_putInitial_8 (k_v (fun σ2 ⟨iσ2, ik2⟩ => ?_))
  have kp : Keep [(4, 1), (5, 9)] [31, 32, 33] σ0 σ2 := keep_c kp ik2 (by decide) (by decide)
  refine g_aload_n hF d_X1_putInitial_11 rfl 0 rfl ?_
  refine g_get (v := .ref (r 5)) hF 3 obC_8 (by decide) m_492 rfl d_X1_putInitial_12 ?_
  refine g_aload_n hF d_X1_putInitial_15 rfl 0 rfl ?_
  refine g_get (v := .int (σ2 8 14)) hF 14 obC_8 (by decide) m_506 rfl d_X1_putInitial_16 ?_
  refine g_top (v := (σ0 8 14)) (ik2 8 14 rfl rfl rfl) ?_
  refine g_iload_n hF d_X1_putInitial_19 rfl 1 rfl ?_
  refine g_iadd hF d_X1_putInitial_20 ?_
  refine g_aload_n hF d_X1_putInitial_21 rfl 2 rfl ?_
  refine g_callVN (As := []) (rest := [.int ((σ0 8 14) + a1), .ref (r 5)]) hF (c_X6_isConstant a g r σ2 qa2 hqa2 iσ2) (Nat.le_of_ble_eq_true rfl) mV_X6_isConstant nm_1430 (recv_ob (obC_op hqa2)) rfl rfl (Nat.le_of_ble_eq_true rfl) d_X1_putInitial_22 (k_roz (fun r3 hz3 => ?_))
  refine g_if_eq hF 33 d_X1_putInitial_25 (by decide) rfl (fun c4_25 => ?_) (fun c4_25 => ?_)
  · -- taken at 25
    refine g_aload_n hF d_X1_putInitial_33 rfl 2 rfl ?_
    refine g_getN hF 7 (obC_op hqa2) (by decide) nm_415 (fval_op hqa2) d_X1_putInitial_34 ?_
    refine g_any (fun v5 => ?_)
    refine g_aload_n hF d_X1_putInitial_37 rfl 2 rfl ?_
    refine g_getN hF 8 (obC_op hqa2) (by decide) nm_419 (fval_op hqa2) d_X1_putInitial_38 ?_
    refine g_any (fun v6 => ?_)
    refine g_callVN (As := [.int ((σ0 8 14) + a1), .int v5, .int v6]) (rest := []) hF (c_X8_addInitial a g r σ2 ((σ0 8 14) + a1) v5 v6 iσ2) (Nat.le_of_ble_eq_true rfl) mV_X8_addInitial nm_1431 (recv_ob obC_5) rfl rfl (Nat.le_of_ble_eq_true rfl) d_X1_putInitial_41 (k_v (fun σ7 ⟨iσ7, ik7⟩ => ?_))
    have kp : Keep [(4, 1), (5, 9)] [31, 32, 33] σ0 σ7 := keep_c kp ik7 (by decide) (by decide)
    exact g_vret hF rfl d_X1_putInitial_44 ⟨rfl, rfl, rfl, ⟨iσ7, kp⟩⟩
  · -- not taken at 25
    refine g_bipush hF (v := (-2)) d_X1_putInitial_28 (by decide) ?_
    refine g_goto hF 37 d_X1_putInitial_30 (by decide) ?_
    refine g_aload_n hF d_X1_putInitial_37 rfl 2 rfl ?_
    refine g_getN hF 8 (obC_op hqa2) (by decide) nm_419 (fval_op hqa2) d_X1_putInitial_38 ?_
    refine g_any (fun v8 => ?_)
    refine g_callVN (As := [.int ((σ0 8 14) + a1), .int (-2), .int v8]) (rest := []) hF (c_X8_addInitial a g r σ2 ((σ0 8 14) + a1) ((-2) : Int32) v8 iσ2) (Nat.le_of_ble_eq_true rfl) mV_X8_addInitial nm_1431 (recv_ob obC_5) rfl rfl (Nat.le_of_ble_eq_true rfl) d_X1_putInitial_41 (k_v (fun σ9 ⟨iσ9, ik9⟩ => ?_))
    have kp : Keep [(4, 1), (5, 9)] [31, 32, 33] σ0 σ9 := keep_c kp ik9 (by decide) (by decide)
    exact g_vret hF rfl d_X1_putInitial_44 ⟨rfl, rfl, rfl, ⟨iσ9, kp⟩⟩
set_option maxHeartbeats 4000000 in
set_option maxRecDepth 100000 in
theorem c_X1_fill (a : Nat → Nat) (g : Nat → Nat → Int32) (r : Nat → Nat) (σ0 : St) (a1 : Int32) (i0 : Inv σ0) (l : Launch) (D : va_G) (cy : Nat → ClassId) : Ct l D cy SC r (EC a g) y_X1_fill (Cond.code y_X1_fill b_X1_fill 4 none) 3 [.ref (r 8), .int a1] σ0 Z0 [] (QV (fun σ9 => (Inv σ9 ∧ Keep [(4, 1), (5, 9), (8, 16)] [17, 24, 31, 32, 33] σ0 σ9))) QF := by
  refine Ct_of (EC_ok a g) (by decide) (Nat.le_of_ble_eq_true rfl) (by decide) (fun X hnn hF => ?_)
  show G SC r X σ0 Z0 [] [(0, .ref (r 8)), (1, .int a1)] [] 0
  have b28 : ∀ (N : Nat) (σ : St) (x1 : Int32) (x2 : Int32) (x3 : Int32) , upm x3 = N → Inv σ → Keep [(4, 1), (5, 9), (8, 16)] [17, 24, 31, 32, 33] σ0 σ → G SC r X σ Z0 [] [(0, .ref (r 8)), (1, .int x1), (2, .int x2), (3, .int x3)] [] 28 := by
    intro M28
    induction M28 using Nat.strongRecOn with
    | _ M28 ih28 =>
      intro σ x1 x2 x3 N28 inv kp
      refine g_iload_n hF d_X1_fill_28 rfl 3 rfl ?_
      refine g_iload_n hF d_X1_fill_29 rfl 2 rfl ?_
      refine g_icmp_ge hF 108 d_X1_fill_30 (by decide) rfl rfl (fun c1_30 => ?_) (fun c1_30 => ?_)
      · -- taken at 30
        exact g_vret hF rfl d_X1_fill_108 ⟨rfl, rfl, rfl, ⟨inv, kp⟩⟩
      · -- not taken at 30
        refine g_aload_n hF d_X1_fill_33 rfl 0 rfl ?_
        refine g_get (v := .int (σ 8 16)) hF 16 obC_8 (by decide) m_508 rfl d_X1_fill_34 ?_
        refine g_if_ne hF 108 d_X1_fill_37 (by decide) rfl (fun c2_37 => ?_) (fun c2_37 => ?_)
        · -- taken at 37
          exact g_vret hF rfl d_X1_fill_108 ⟨rfl, rfl, rfl, ⟨inv, kp⟩⟩
        · -- not taken at 37
          refine g_aload_n hF d_X1_fill_40 rfl 0 rfl ?_
          refine g_get (v := .int (σ 8 9)) hF 9 obC_8 (by decide) m_501 rfl d_X1_fill_41 ?_
          refine g_if_eq hF 76 d_X1_fill_44 (by decide) rfl (fun c3_44 => ?_) (fun c3_44 => ?_)
          · -- taken at 44
            refine g_aload_n hF d_X1_fill_76 rfl 0 rfl ?_
            refine g_get (v := .ref (r 5)) hF 3 obC_8 (by decide) m_492 rfl d_X1_fill_77 ?_
            refine g_aload_n hF d_X1_fill_80 rfl 0 rfl ?_
            refine g_get (v := .int (σ 8 14)) hF 14 obC_8 (by decide) m_506 rfl d_X1_fill_81 ?_
            refine g_iload_n hF d_X1_fill_84 rfl 3 rfl ?_
            refine g_iadd hF d_X1_fill_85 ?_
            refine g_bipush hF (v := (-2)) d_X1_fill_86 (by decide) ?_
            refine g_aload_n hF d_X1_fill_88 rfl 0 rfl ?_
            refine g_get (v := .ref (r 2)) hF 1 obC_8 (by decide) m_490 rfl d_X1_fill_89 ?_
            refine g_getN (v := .ref (r 17)) hF 9 obC_2 (by decide) nm_64 rfl d_X1_fill_92 ?_
            refine g_iload_n hF d_X1_fill_95 rfl 3 rfl ?_
            refine g_callSN (As := [.ref (r 17), .int x3]) (rest := [.int (-2), .int ((σ 8 14) + x3), .ref (r 5)]) hF (c_at a g r σ arC_17 (by decide) x3) (Nat.le_of_ble_eq_true rfl) mS_X12_at nm_1356 rfl rfl (Nat.le_of_ble_eq_true rfl) d_X1_fill_96 (k_rop (fun r4 hr4 => ?_))
            refine g_callVN (As := [.int ((σ 8 14) + x3), .int (-2), .int r4]) (rest := []) hF (c_X8_addInitial a g r σ ((σ 8 14) + x3) ((-2) : Int32) r4 inv) (Nat.le_of_ble_eq_true rfl) mV_X8_addInitial nm_1431 (recv_ob obC_5) rfl rfl (Nat.le_of_ble_eq_true rfl) d_X1_fill_99 (k_v (fun σ5 ⟨iσ5, ik5⟩ => ?_))
            have kp : Keep [(4, 1), (5, 9), (8, 16)] [17, 24, 31, 32, 33] σ0 σ5 := keep_c kp ik5 (by decide) (by decide)
            refine g_iinc hF (x3 + 1) [(3, .int (x3 + 1)), (0, .ref (r 8)), (1, .int x1), (2, .int x2)] d_X1_fill_102 3 rfl rfl hnn (by decide) rfl ?_
            refine g_goto hF 28 d_X1_fill_105 (by decide) ?_
            exact g_sub (L' := [(0, .ref (r 8)), (1, .int x1), (2, .int x2), (3, .int (x3 + 1))]) [1, 2, 3, 0] rfl (ih28 _ (N28 ▸ upm_lt c1_30 (s_rng x2).2) σ5 x1 x2 (x3 + 1) rfl iσ5 kp)
          · -- not taken at 44
            refine g_aload_n hF d_X1_fill_47 rfl 0 rfl ?_
            refine g_get (v := .ref (r 4)) hF 4 obC_8 (by decide) m_493 rfl d_X1_fill_48 ?_
            refine g_bipush hF (v := 17) d_X1_fill_51 (by decide) ?_
            refine g_aload_n hF d_X1_fill_53 rfl 0 rfl ?_
            refine g_get (v := .int (σ 8 10)) hF 10 obC_8 (by decide) m_502 rfl d_X1_fill_54 ?_
            refine g_iload_n hF d_X1_fill_57 rfl 3 rfl ?_
            refine g_aload_n hF d_X1_fill_58 rfl 0 rfl ?_
            refine g_get (v := .ref (r 2)) hF 1 obC_8 (by decide) m_490 rfl d_X1_fill_59 ?_
            refine g_getN (v := .ref (r 17)) hF 9 obC_2 (by decide) nm_64 rfl d_X1_fill_62 ?_
            refine g_iload_n hF d_X1_fill_65 rfl 3 rfl ?_
            refine g_callSN (As := [.ref (r 17), .int x3]) (rest := [.int x3, .int (σ 8 10), .int 17, .ref (r 4)]) hF (c_at a g r σ arC_17 (by decide) x3) (Nat.le_of_ble_eq_true rfl) mS_X12_at nm_1356 rfl rfl (Nat.le_of_ble_eq_true rfl) d_X1_fill_66 (k_rop (fun r6 hr6 => ?_))
            refine g_callVN (As := [.int 17, .int (σ 8 10), .int x3, .int r6]) (rest := []) hF (c_X0_emit a g r σ (17 : Int32) (σ 8 10) x3 r6 inv) (Nat.le_of_ble_eq_true rfl) mV_X0_emit nm_1379 (recv_ob obC_4) rfl rfl (Nat.le_of_ble_eq_true rfl) d_X1_fill_69 (k_i (fun r7 σ7 ⟨iσ7, ik7⟩ => ?_))
            have kp : Keep [(4, 1), (5, 9), (8, 16)] [17, 24, 31, 32, 33] σ0 σ7 := keep_c kp ik7 (by decide) (by decide)
            refine g_pop hF d_X1_fill_72 rfl ?_
            refine g_goto hF 102 d_X1_fill_73 (by decide) ?_
            refine g_iinc hF (x3 + 1) [(3, .int (x3 + 1)), (0, .ref (r 8)), (1, .int x1), (2, .int x2)] d_X1_fill_102 3 rfl rfl hnn (by decide) rfl ?_
            refine g_goto hF 28 d_X1_fill_105 (by decide) ?_
            exact g_sub (L' := [(0, .ref (r 8)), (1, .int x1), (2, .int x2), (3, .int (x3 + 1))]) [1, 2, 3, 0] rfl (ih28 _ (N28 ▸ upm_lt c1_30 (s_rng x2).2) σ7 x1 x2 (x3 + 1) rfl iσ7 kp)
  have kp : Keep [(4, 1), (5, 9), (8, 16)] [17, 24, 31, 32, 33] σ0 σ0 := keep_rf
  refine g_aload_n hF d_X1_fill_0 rfl 0 rfl ?_
  refine g_get (v := .ref (r 2)) hF 1 obC_8 (by decide) m_490 rfl d_X1_fill_1 ?_
  refine g_iload_n hF d_X1_fill_4 rfl 1 rfl ?_
  refine g_callVN (As := [.int a1]) (rest := []) hF (c_X10_readCodes a g r σ0 a1 i0) (Nat.le_of_ble_eq_true rfl) mV_X10_readCodes nm_1436 (recv_ob obC_2) rfl rfl (Nat.le_of_ble_eq_true rfl) d_X1_fill_5 (k_i (fun r8 σ8 ⟨iσ8, ik8⟩ => ?_))
  have kp : Keep [(4, 1), (5, 9), (8, 16)] [17, 24, 31, 32, 33] σ0 σ8 := keep_c kp ik8 (by decide) (by decide)
  refine g_istore_n hF [(2, .int r8), (0, .ref (r 8)), (1, .int a1)] d_X1_fill_8 rfl hnn (by decide) rfl ?_
  refine g_aload_n hF d_X1_fill_9 rfl 1 rfl ?_
  refine g_iload_n hF d_X1_fill_10 rfl 0 rfl ?_
  refine g_aload_n hF d_X1_fill_11 rfl 1 rfl ?_
  refine g_get (v := .int (σ8 8 12)) hF 12 obC_8 (by decide) m_504 rfl d_X1_fill_12 ?_
  refine g_top (v := (σ0 8 12)) (ik8 8 12 rfl rfl rfl) ?_
  refine g_icmp_le hF 22 d_X1_fill_15 (by decide) rfl rfl (fun c9_15 => ?_) (fun c9_15 => ?_)
  · -- taken at 15
    refine g_iconst hF (v := 0) d_X1_fill_22 (by decide) ?_
    refine g_putZ (v := 0) hF 16 obC_8 (by decide) m_508 rfl rfl rfl (Or.inl rfl) d_X1_fill_23 ?_
    have kp : Keep [(4, 1), (5, 9), (8, 16)] [17, 24, 31, 32, 33] σ0 (upC σ8 8 16 0) := keep_f kp (by decide)
    refine g_iconst hF (v := 0) d_X1_fill_26 (by decide) ?_
    refine g_istore_n hF [(3, .int 0), (2, .int r8), (0, .ref (r 8)), (1, .int a1)] d_X1_fill_27 rfl hnn (by decide) rfl ?_
    have j10 : Inv (upC σ8 8 16 0) := ⟨iσ8.1, iσ8.2.1, iσ8.2.2.1, iσ8.2.2.2.1, iσ8.2.2.2.2.1, iσ8.2.2.2.2.2.1, iσ8.2.2.2.2.2.2.1, iσ8.2.2.2.2.2.2.2.1, iσ8.2.2.2.2.2.2.2.2.1, iσ8.2.2.2.2.2.2.2.2.2.1, iσ8.2.2.2.2.2.2.2.2.2.2.1, iσ8.2.2.2.2.2.2.2.2.2.2.2.1, iσ8.2.2.2.2.2.2.2.2.2.2.2.2.1, iσ8.2.2.2.2.2.2.2.2.2.2.2.2.2.1, iσ8.2.2.2.2.2.2.2.2.2.2.2.2.2.2.1, iσ8.2.2.2.2.2.2.2.2.2.2.2.2.2.2.2.1, iσ8.2.2.2.2.2.2.2.2.2.2.2.2.2.2.2.2.1, iσ8.2.2.2.2.2.2.2.2.2.2.2.2.2.2.2.2.2.1, iσ8.2.2.2.2.2.2.2.2.2.2.2.2.2.2.2.2.2.2.1, iσ8.2.2.2.2.2.2.2.2.2.2.2.2.2.2.2.2.2.2.2⟩
    exact g_sub (L' := [(0, .ref (r 8)), (1, .int a1), (2, .int r8), (3, .int 0)]) [2, 3, 1, 0] rfl (b28 _ (upC σ8 8 16 0) a1 r8 (0 : Int32) rfl j10 kp)
  · -- not taken at 15
    refine g_iconst hF (v := 1) d_X1_fill_18 (by decide) ?_
    refine g_goto hF 23 d_X1_fill_19 (by decide) ?_
    refine g_putZ (v := 1) hF 16 obC_8 (by decide) m_508 rfl rfl rfl (Or.inr rfl) d_X1_fill_23 ?_
    have kp : Keep [(4, 1), (5, 9), (8, 16)] [17, 24, 31, 32, 33] σ0 (upC σ8 8 16 1) := keep_f kp (by decide)
    refine g_iconst hF (v := 0) d_X1_fill_26 (by decide) ?_
    refine g_istore_n hF [(3, .int 0), (2, .int r8), (0, .ref (r 8)), (1, .int a1)] d_X1_fill_27 rfl hnn (by decide) rfl ?_
    have j11 : Inv (upC σ8 8 16 1) := ⟨iσ8.1, iσ8.2.1, iσ8.2.2.1, iσ8.2.2.2.1, iσ8.2.2.2.2.1, iσ8.2.2.2.2.2.1, iσ8.2.2.2.2.2.2.1, iσ8.2.2.2.2.2.2.2.1, iσ8.2.2.2.2.2.2.2.2.1, iσ8.2.2.2.2.2.2.2.2.2.1, iσ8.2.2.2.2.2.2.2.2.2.2.1, iσ8.2.2.2.2.2.2.2.2.2.2.2.1, iσ8.2.2.2.2.2.2.2.2.2.2.2.2.1, iσ8.2.2.2.2.2.2.2.2.2.2.2.2.2.1, iσ8.2.2.2.2.2.2.2.2.2.2.2.2.2.2.1, iσ8.2.2.2.2.2.2.2.2.2.2.2.2.2.2.2.1, iσ8.2.2.2.2.2.2.2.2.2.2.2.2.2.2.2.2.1, iσ8.2.2.2.2.2.2.2.2.2.2.2.2.2.2.2.2.2.1, iσ8.2.2.2.2.2.2.2.2.2.2.2.2.2.2.2.2.2.2.1, iσ8.2.2.2.2.2.2.2.2.2.2.2.2.2.2.2.2.2.2.2⟩
    exact g_sub (L' := [(0, .ref (r 8)), (1, .int a1), (2, .int r8), (3, .int 0)]) [2, 3, 1, 0] rfl (b28 _ (upC σ8 8 16 1) a1 r8 (0 : Int32) rfl j11 kp)
set_option maxHeartbeats 4000000 in
set_option maxRecDepth 100000 in
theorem c_X0_thread (a : Nat → Nat) (g : Nat → Nat → Int32) (r : Nat → Nat) (σ0 : St) (a1 : Int32) (i0 : Inv σ0) (l : Launch) (D : va_G) (cy : Nat → ClassId) : Ct l D cy SC r (EC a g) y_X0_thread (Cond.code y_X0_thread b_X0_thread 7 none) 1 [.ref (r 4), .int a1] σ0 Z0 [] (QV (fun σ9 => (Inv σ9 ∧ Keep [] [24] σ0 σ9))) QF := by
  refine Ct_of (EC_ok a g) (by decide) (Nat.le_of_ble_eq_true rfl) (by decide) (fun X hnn hF => ?_)
  show G SC r X σ0 Z0 [] [(0, .ref (r 4)), (1, .int a1)] [] 0
  have b7 : ∀ (N : Nat) (σ : St) (x1 : Int32) (x2 : Int32) (x3 : Int32) , dnm x3 = N → Inv σ → Keep [] [24] σ0 σ → G SC r X σ Z0 [] [(0, .ref (r 4)), (1, .int x1), (2, .int x2), (3, .int x3)] [] 7 := by
    intro M7
    induction M7 using Nat.strongRecOn with
    | _ M7 ih7 =>
      intro σ x1 x2 x3 N7 inv kp
      have b58 : ∀ (N : Nat) (σ : St) (x1 : Int32) (x2 : Int32) (x3 : Int32) (x4 : Int32) (x5 : Int32) (x6 : Int32) , upm x6 = N → Inv σ → Keep [] [24] σ0 σ → dnm (x3 + (-1)) < M7 → G SC r X σ Z0 [] [(0, .ref (r 4)), (1, .int x1), (2, .int x2), (3, .int x3), (4, .int x4), (5, .int x5), (6, .int x6)] [] 58 := by
        intro M58
        induction M58 using Nat.strongRecOn with
        | _ M58 ih58 =>
          intro σ x1 x2 x3 x4 x5 x6 N58 inv kp gc7
          refine g_iload hF d_X0_thread_58 6 rfl ?_
          refine g_bipush hF (v := 100) d_X0_thread_60 (by decide) ?_
          refine g_icmp_ge (yv := 100) hF 98 d_X0_thread_62 (by decide) rfl (by decide) (fun c1_62 => ?_) (fun c1_62 => ?_)
          · -- taken at 62
            refine g_aload_n hF d_X0_thread_98 rfl 0 rfl ?_
            refine g_get (v := .ref (r 24)) hF 0 obC_4 (by decide) m_149 rfl d_X0_thread_99 ?_
            refine g_iload_n hF d_X0_thread_102 rfl 2 rfl ?_
            refine g_iconst hF (v := 1) d_X0_thread_103 (by decide) ?_
            refine g_iadd hF d_X0_thread_104 ?_
            refine g_iload hF d_X0_thread_105 5 rfl ?_
            refine g_callSN (As := [.ref (r 24), .int (x2 + 1), .int x5]) (rest := []) hF (c_set a g r σ arC_24 (by decide) (x2 + 1) x5) (Nat.le_of_ble_eq_true rfl) mS_X12_set nm_1214 rfl rfl (Nat.le_of_ble_eq_true rfl) d_X0_thread_107 (k_v (fun σ2 ⟨g2, eσ2, hg2⟩ => ?_))
            subst eσ2
            have kp : Keep [] [24] σ0 (upF σ 24 g2) := keep_F kp (by decide)
            refine g_iload_n hF d_X0_thread_110 rfl 2 rfl ?_
            refine g_gets hF (fun A s h => EC_z1 h) m_1075 d_X0_thread_111 ?_
            refine g_iload hF d_X0_thread_114 4 rfl ?_
            refine g_callSN (As := [.ref (a 1), .int x4]) (rest := [.int x2]) hF (c_att1 a g r (upF σ 24 g2) x4) (Nat.le_of_ble_eq_true rfl) mS_X12_at nm_1213 rfl rfl (Nat.le_of_ble_eq_true rfl) d_X0_thread_116 (k_ro (fun r3 => ?_))
            refine g_iconst hF (v := 1) d_X0_thread_119 (by decide) ?_
            refine g_mmax hF (Nat.le_of_ble_eq_true rfl) m_1468 m_1131 m_23 m_1132 (Nat.le_of_ble_eq_true rfl) d_X0_thread_120 ?_
            refine g_nm (fun v5 ev5 => ?_)
            have mv5 := s_max ev5
            refine g_iadd hF d_X0_thread_123 ?_
            refine g_istore_n hF [(2, .int (x2 + v5)), (0, .ref (r 4)), (1, .int x1), (3, .int x3), (4, .int x4), (5, .int x5), (6, .int x6)] d_X0_thread_124 rfl hnn (by decide) rfl ?_
            refine g_iinc hF (x3 + (-1)) [(3, .int (x3 + (-1))), (2, .int (x2 + v5)), (0, .ref (r 4)), (1, .int x1), (4, .int x4), (5, .int x5), (6, .int x6)] d_X0_thread_125 3 rfl rfl hnn (by decide) rfl ?_
            refine g_goto hF 7 d_X0_thread_128 (by decide) ?_
            have j6 : Inv (upF σ 24 g2) := ⟨inv.1, inv.2.1, inv.2.2.1, inv.2.2.2.1, inv.2.2.2.2.1, inv.2.2.2.2.2.1, inv.2.2.2.2.2.2.1, inv.2.2.2.2.2.2.2.1, inv.2.2.2.2.2.2.2.2.1, inv.2.2.2.2.2.2.2.2.2.1, inv.2.2.2.2.2.2.2.2.2.2.1, inv.2.2.2.2.2.2.2.2.2.2.2.1, inv.2.2.2.2.2.2.2.2.2.2.2.2.1, inv.2.2.2.2.2.2.2.2.2.2.2.2.2.1, inv.2.2.2.2.2.2.2.2.2.2.2.2.2.2.1, inv.2.2.2.2.2.2.2.2.2.2.2.2.2.2.2.1, inv.2.2.2.2.2.2.2.2.2.2.2.2.2.2.2.2.1, inv.2.2.2.2.2.2.2.2.2.2.2.2.2.2.2.2.2.1, inv.2.2.2.2.2.2.2.2.2.2.2.2.2.2.2.2.2.2.1, inv.2.2.2.2.2.2.2.2.2.2.2.2.2.2.2.2.2.2.2⟩
            exact g_sub (L' := [(0, .ref (r 4)), (1, .int x1), (2, .int (x2 + v5)), (3, .int (x3 + (-1)))]) [2, 3, 1, 0] rfl (ih7 _ gc7 (upF σ 24 g2) x1 (x2 + v5) (x3 + (-1)) rfl j6 kp)
          · -- not taken at 62
            refine g_aload_n hF d_X0_thread_65 rfl 0 rfl ?_
            refine g_get (v := .ref (r 24)) hF 0 obC_4 (by decide) m_149 rfl d_X0_thread_66 ?_
            refine g_iload hF d_X0_thread_69 5 rfl ?_
            refine g_callSN (As := [.ref (r 24), .int x5]) (rest := []) hF (c_at a g r σ arC_24 (by decide) x5) (Nat.le_of_ble_eq_true rfl) mS_X12_at nm_1213 rfl rfl (Nat.le_of_ble_eq_true rfl) d_X0_thread_71 (k_rop (fun r7 hr7 => ?_))
            refine g_bipush hF (v := 26) d_X0_thread_74 (by decide) ?_
            refine g_icmp_ne (yv := 26) hF 98 d_X0_thread_76 (by decide) rfl (by decide) (fun c8_76 => ?_) (fun c8_76 => ?_)
            · -- taken at 76
              refine g_aload_n hF d_X0_thread_98 rfl 0 rfl ?_
              refine g_get (v := .ref (r 24)) hF 0 obC_4 (by decide) m_149 rfl d_X0_thread_99 ?_
              refine g_iload_n hF d_X0_thread_102 rfl 2 rfl ?_
              refine g_iconst hF (v := 1) d_X0_thread_103 (by decide) ?_
              refine g_iadd hF d_X0_thread_104 ?_
              refine g_iload hF d_X0_thread_105 5 rfl ?_
              refine g_callSN (As := [.ref (r 24), .int (x2 + 1), .int x5]) (rest := []) hF (c_set a g r σ arC_24 (by decide) (x2 + 1) x5) (Nat.le_of_ble_eq_true rfl) mS_X12_set nm_1214 rfl rfl (Nat.le_of_ble_eq_true rfl) d_X0_thread_107 (k_v (fun σ9 ⟨g9, eσ9, hg9⟩ => ?_))
              subst eσ9
              have kp : Keep [] [24] σ0 (upF σ 24 g9) := keep_F kp (by decide)
              refine g_iload_n hF d_X0_thread_110 rfl 2 rfl ?_
              refine g_gets hF (fun A s h => EC_z1 h) m_1075 d_X0_thread_111 ?_
              refine g_iload hF d_X0_thread_114 4 rfl ?_
              refine g_callSN (As := [.ref (a 1), .int x4]) (rest := [.int x2]) hF (c_att1 a g r (upF σ 24 g9) x4) (Nat.le_of_ble_eq_true rfl) mS_X12_at nm_1213 rfl rfl (Nat.le_of_ble_eq_true rfl) d_X0_thread_116 (k_ro (fun r10 => ?_))
              refine g_iconst hF (v := 1) d_X0_thread_119 (by decide) ?_
              refine g_mmax hF (Nat.le_of_ble_eq_true rfl) m_1468 m_1131 m_23 m_1132 (Nat.le_of_ble_eq_true rfl) d_X0_thread_120 ?_
              refine g_nm (fun v12 ev12 => ?_)
              have mv12 := s_max ev12
              refine g_iadd hF d_X0_thread_123 ?_
              refine g_istore_n hF [(2, .int (x2 + v12)), (0, .ref (r 4)), (1, .int x1), (3, .int x3), (4, .int x4), (5, .int x5), (6, .int x6)] d_X0_thread_124 rfl hnn (by decide) rfl ?_
              refine g_iinc hF (x3 + (-1)) [(3, .int (x3 + (-1))), (2, .int (x2 + v12)), (0, .ref (r 4)), (1, .int x1), (4, .int x4), (5, .int x5), (6, .int x6)] d_X0_thread_125 3 rfl rfl hnn (by decide) rfl ?_
              refine g_goto hF 7 d_X0_thread_128 (by decide) ?_
              have j13 : Inv (upF σ 24 g9) := ⟨inv.1, inv.2.1, inv.2.2.1, inv.2.2.2.1, inv.2.2.2.2.1, inv.2.2.2.2.2.1, inv.2.2.2.2.2.2.1, inv.2.2.2.2.2.2.2.1, inv.2.2.2.2.2.2.2.2.1, inv.2.2.2.2.2.2.2.2.2.1, inv.2.2.2.2.2.2.2.2.2.2.1, inv.2.2.2.2.2.2.2.2.2.2.2.1, inv.2.2.2.2.2.2.2.2.2.2.2.2.1, inv.2.2.2.2.2.2.2.2.2.2.2.2.2.1, inv.2.2.2.2.2.2.2.2.2.2.2.2.2.2.1, inv.2.2.2.2.2.2.2.2.2.2.2.2.2.2.2.1, inv.2.2.2.2.2.2.2.2.2.2.2.2.2.2.2.2.1, inv.2.2.2.2.2.2.2.2.2.2.2.2.2.2.2.2.2.1, inv.2.2.2.2.2.2.2.2.2.2.2.2.2.2.2.2.2.2.1, inv.2.2.2.2.2.2.2.2.2.2.2.2.2.2.2.2.2.2.2⟩
              exact g_sub (L' := [(0, .ref (r 4)), (1, .int x1), (2, .int (x2 + v12)), (3, .int (x3 + (-1)))]) [2, 3, 1, 0] rfl (ih7 _ gc7 (upF σ 24 g9) x1 (x2 + v12) (x3 + (-1)) rfl j13 kp)
            · -- not taken at 76
              refine g_aload_n hF d_X0_thread_79 rfl 0 rfl ?_
              refine g_get (v := .ref (r 24)) hF 0 obC_4 (by decide) m_149 rfl d_X0_thread_80 ?_
              refine g_iload hF d_X0_thread_83 5 rfl ?_
              refine g_iconst hF (v := 1) d_X0_thread_85 (by decide) ?_
              refine g_iadd hF d_X0_thread_86 ?_
              refine g_callSN (As := [.ref (r 24), .int (x5 + 1)]) (rest := []) hF (c_at a g r σ arC_24 (by decide) (x5 + 1)) (Nat.le_of_ble_eq_true rfl) mS_X12_at nm_1213 rfl rfl (Nat.le_of_ble_eq_true rfl) d_X0_thread_87 (k_rop (fun r14 hr14 => ?_))
              refine g_istore hF [(5, .int r14), (0, .ref (r 4)), (1, .int x1), (2, .int x2), (3, .int x3), (4, .int x4), (6, .int x6)] d_X0_thread_90 hnn (by decide) rfl ?_
              refine g_iinc hF (x6 + 1) [(6, .int (x6 + 1)), (5, .int r14), (0, .ref (r 4)), (1, .int x1), (2, .int x2), (3, .int x3), (4, .int x4)] d_X0_thread_92 6 rfl rfl hnn (by decide) rfl ?_
              refine g_goto hF 58 d_X0_thread_95 (by decide) ?_
              exact g_sub (L' := [(0, .ref (r 4)), (1, .int x1), (2, .int x2), (3, .int x3), (4, .int x4), (5, .int r14), (6, .int (x6 + 1))]) [2, 3, 4, 5, 6, 1, 0] rfl (ih58 _ (N58 ▸ upm_lt c1_62 (by decide)) σ x1 x2 x3 x4 r14 (x6 + 1) rfl inv kp gc7)
      refine g_iload_n hF d_X0_thread_7 rfl 3 rfl ?_
      refine g_if_le hF 131 d_X0_thread_8 (by decide) rfl (fun c15_8 => ?_) (fun c15_8 => ?_)
      · -- taken at 8
        exact g_vret hF rfl d_X0_thread_131 ⟨rfl, rfl, rfl, ⟨inv, kp⟩⟩
      · -- not taken at 8
        refine g_iload_n hF d_X0_thread_11 rfl 2 rfl ?_
        refine g_aload_n hF d_X0_thread_12 rfl 0 rfl ?_
        refine g_get (v := .int (σ 4 1)) hF 1 obC_4 (by decide) m_152 rfl d_X0_thread_13 ?_
        refine g_icmp_ge hF 131 d_X0_thread_16 (by decide) rfl rfl (fun c16_16 => ?_) (fun c16_16 => ?_)
        · -- taken at 16
          exact g_vret hF rfl d_X0_thread_131 ⟨rfl, rfl, rfl, ⟨inv, kp⟩⟩
        · -- not taken at 16
          refine g_aload_n hF d_X0_thread_19 rfl 0 rfl ?_
          refine g_get (v := .ref (r 24)) hF 0 obC_4 (by decide) m_149 rfl d_X0_thread_20 ?_
          refine g_iload_n hF d_X0_thread_23 rfl 2 rfl ?_
          refine g_callSN (As := [.ref (r 24), .int x2]) (rest := []) hF (c_at a g r σ arC_24 (by decide) x2) (Nat.le_of_ble_eq_true rfl) mS_X12_at nm_1213 rfl rfl (Nat.le_of_ble_eq_true rfl) d_X0_thread_24 (k_rop (fun r17 hr17 => ?_))
          refine g_istore hF [(4, .int r17), (0, .ref (r 4)), (1, .int x1), (2, .int x2), (3, .int x3)] d_X0_thread_27 hnn (by decide) rfl ?_
          refine g_iload hF d_X0_thread_29 0 rfl ?_
          refine g_bipush hF (v := 26) d_X0_thread_31 (by decide) ?_
          refine g_icmp_lt (yv := 26) hF 110 d_X0_thread_33 (by decide) rfl (by decide) (fun c18_33 => ?_) (fun c18_33 => ?_)
          · -- taken at 33
            refine g_iload_n hF d_X0_thread_110 rfl 3 rfl ?_
            refine g_gets hF (fun A s h => EC_z1 h) m_1075 d_X0_thread_111 ?_
            refine g_iload hF d_X0_thread_114 0 rfl ?_
            refine g_callSN (As := [.ref (a 1), .int r17]) (rest := [.int x2]) hF (c_att1 a g r σ r17) (Nat.le_of_ble_eq_true rfl) mS_X12_at nm_1213 rfl rfl (Nat.le_of_ble_eq_true rfl) d_X0_thread_116 (k_ro (fun r19 => ?_))
            refine g_iconst hF (v := 1) d_X0_thread_119 (by decide) ?_
            refine g_mmax hF (Nat.le_of_ble_eq_true rfl) m_1468 m_1131 m_23 m_1132 (Nat.le_of_ble_eq_true rfl) d_X0_thread_120 ?_
            refine g_nm (fun v21 ev21 => ?_)
            have mv21 := s_max ev21
            refine g_iadd hF d_X0_thread_123 ?_
            refine g_istore_n hF [(2, .int (x2 + v21)), (4, .int r17), (0, .ref (r 4)), (1, .int x1), (3, .int x3)] d_X0_thread_124 rfl hnn (by decide) rfl ?_
            refine g_iinc hF (x3 + (-1)) [(3, .int (x3 + (-1))), (2, .int (x2 + v21)), (4, .int r17), (0, .ref (r 4)), (1, .int x1)] d_X0_thread_125 4 rfl rfl hnn (by decide) rfl ?_
            refine g_goto hF 7 d_X0_thread_128 (by decide) ?_
            exact g_sub (L' := [(0, .ref (r 4)), (1, .int x1), (2, .int (x2 + v21)), (3, .int (x3 + (-1)))]) [3, 4, 1, 0] rfl (ih7 _ (N7 ▸ dnm_lt c15_8 (by decide)) σ x1 (x2 + v21) (x3 + (-1)) rfl inv kp)
          · -- not taken at 33
            refine g_iload hF d_X0_thread_36 0 rfl ?_
            refine g_bipush hF (v := 28) d_X0_thread_38 (by decide) ?_
            refine g_icmp_gt (yv := 28) hF 110 d_X0_thread_40 (by decide) rfl (by decide) (fun c22_40 => ?_) (fun c22_40 => ?_)
            · -- taken at 40
              refine g_iload_n hF d_X0_thread_110 rfl 3 rfl ?_
              refine g_gets hF (fun A s h => EC_z1 h) m_1075 d_X0_thread_111 ?_
              refine g_iload hF d_X0_thread_114 0 rfl ?_
              refine g_callSN (As := [.ref (a 1), .int r17]) (rest := [.int x2]) hF (c_att1 a g r σ r17) (Nat.le_of_ble_eq_true rfl) mS_X12_at nm_1213 rfl rfl (Nat.le_of_ble_eq_true rfl) d_X0_thread_116 (k_ro (fun r23 => ?_))
              refine g_iconst hF (v := 1) d_X0_thread_119 (by decide) ?_
              refine g_mmax hF (Nat.le_of_ble_eq_true rfl) m_1468 m_1131 m_23 m_1132 (Nat.le_of_ble_eq_true rfl) d_X0_thread_120 ?_
              refine g_nm (fun v25 ev25 => ?_)
              have mv25 := s_max ev25
              refine g_iadd hF d_X0_thread_123 ?_
              refine g_istore_n hF [(2, .int (x2 + v25)), (4, .int r17), (0, .ref (r 4)), (1, .int x1), (3, .int x3)] d_X0_thread_124 rfl hnn (by decide) rfl ?_
              refine g_iinc hF (x3 + (-1)) [(3, .int (x3 + (-1))), (2, .int (x2 + v25)), (4, .int r17), (0, .ref (r 4)), (1, .int x1)] d_X0_thread_125 4 rfl rfl hnn (by decide) rfl ?_
              refine g_goto hF 7 d_X0_thread_128 (by decide) ?_
              exact g_sub (L' := [(0, .ref (r 4)), (1, .int x1), (2, .int (x2 + v25)), (3, .int (x3 + (-1)))]) [3, 4, 1, 0] rfl (ih7 _ (N7 ▸ dnm_lt c15_8 (by decide)) σ x1 (x2 + v25) (x3 + (-1)) rfl inv kp)
            · -- not taken at 40
              refine g_aload_n hF d_X0_thread_43 rfl 1 rfl ?_
              refine g_get (v := .ref (r 24)) hF 0 obC_4 (by decide) m_149 rfl d_X0_thread_44 ?_
              refine g_iload_n hF d_X0_thread_47 rfl 3 rfl ?_
              refine g_iconst hF (v := 1) d_X0_thread_48 (by decide) ?_
              refine g_iadd hF d_X0_thread_49 ?_
              refine g_callSN (As := [.ref (r 24), .int (x2 + 1)]) (rest := []) hF (c_at a g r σ arC_24 (by decide) (x2 + 1)) (Nat.le_of_ble_eq_true rfl) mS_X12_at nm_1213 rfl rfl (Nat.le_of_ble_eq_true rfl) d_X0_thread_50 (k_rop (fun r26 hr26 => ?_))
              refine g_istore hF [(5, .int r26), (4, .int r17), (0, .ref (r 4)), (1, .int x1), (2, .int x2), (3, .int x3)] d_X0_thread_53 hnn (by decide) rfl ?_
              refine g_iconst hF (v := 0) d_X0_thread_55 (by decide) ?_
              refine g_istore hF [(6, .int 0), (5, .int r26), (4, .int r17), (0, .ref (r 4)), (1, .int x1), (2, .int x2), (3, .int x3)] d_X0_thread_56 hnn (by decide) rfl ?_
              exact g_sub (L' := [(0, .ref (r 4)), (1, .int x1), (2, .int x2), (3, .int x3), (4, .int r17), (5, .int r26), (6, .int 0)]) [3, 4, 5, 6, 2, 1, 0] rfl (b58 _ σ x1 x2 x3 r17 r26 (0 : Int32) rfl inv kp (N7 ▸ dnm_lt c15_8 (by decide)))
  have kp : Keep [] [24] σ0 σ0 := keep_rf
  refine g_iload_n hF d_X0_thread_0 rfl 1 rfl ?_
  refine g_istore_n hF [(2, .int a1), (0, .ref (r 4)), (1, .int a1)] d_X0_thread_1 rfl hnn (by decide) rfl ?_
  refine g_aload_n hF d_X0_thread_2 rfl 1 rfl ?_
  refine g_get (v := .int (σ0 4 1)) hF 1 obC_4 (by decide) m_152 rfl d_X0_thread_3 ?_
  refine g_istore_n hF [(3, .int (σ0 4 1)), (2, .int a1), (0, .ref (r 4)), (1, .int a1)] d_X0_thread_6 rfl hnn (by decide) rfl ?_
  exact g_sub (L' := [(0, .ref (r 4)), (1, .int a1), (2, .int a1), (3, .int (σ0 4 1))]) [2, 3, 1, 0] rfl (b7 _ σ0 a1 a1 (σ0 4 1) rfl i0 kp)
set_option maxHeartbeats 4000000 in
set_option maxRecDepth 100000 in
theorem c_X9_print (a : Nat → Nat) (g : Nat → Nat → Int32) (r : Nat → Nat) (σ0 : St) (a1 : Int32) (i0 : Inv σ0) (l : Launch) (D : va_G) (cy : Nat → ClassId) : Ct l D cy SC r (EC a g) y_X9_print (Cond.code y_X9_print b_X9_print 7 (some .boolean)) 1 [.ref (r 11), .int a1] σ0 Z0 [] (QI (fun v9 σ9 => (v9 = 0 ∨ v9 = 1) ∧ (Inv σ9 ∧ Keep [(11, 2)] [61] σ0 σ9))) QF := by
  refine Ct_of (EC_ok a g) (by decide) (Nat.le_of_ble_eq_true rfl) (by decide) (fun X hnn hF => ?_)
  show G SC r X σ0 Z0 [] [(0, .ref (r 11)), (1, .int a1)] [] 0
  have b64 : ∀ (N : Nat) (σ : St) (x1 : Int32) (x2 : Int64) (x4 : Int64) (x6 : Int32) , ldn x4 = N → Inv σ → Keep [(11, 2)] [61] σ0 σ → x6 = 0 ∨ x6 = 1 → G SC r X σ Z0 [] [(0, .ref (r 11)), (1, .int x1), (2, .long x2), (4, .long x4), (6, .int x6)] [] 64 := by
    intro M64
    induction M64 using Nat.strongRecOn with
    | _ M64 ih64 =>
      intro σ x1 x2 x4 x6 N64 inv kp z_x6
      refine g_lload hF d_X9_print_64 3 rfl ?_
      refine g_lconst hF (v := 0) d_X9_print_66 (by decide) ?_
      refine g_lcmp hF d_X9_print_67 ?_
      refine g_if_le hF 106 d_X9_print_68 (by decide) rfl (fun c1_68 => ?_) (fun c1_68 => ?_)
      · -- taken at 68
        refine g_iload hF d_X9_print_106 4 rfl ?_
        exact g_zret hF rfl (k_nz z_x6) d_X9_print_108 ⟨rfl, rfl, x6, rfl, z_x6, ⟨inv, kp⟩⟩
      · -- not taken at 68
        refine g_iload hF d_X9_print_71 4 rfl ?_
        refine g_if_eq hF 106 d_X9_print_73 (by decide) rfl (fun c2_73 => ?_) (fun c2_73 => ?_)
        · -- taken at 73
          refine g_iload hF d_X9_print_106 4 rfl ?_
          exact g_zret hF rfl (k_nz z_x6) d_X9_print_108 ⟨rfl, rfl, x6, rfl, z_x6, ⟨inv, kp⟩⟩
        · -- not taken at 73
          refine g_aload_n hF d_X9_print_76 rfl 0 rfl ?_
          refine g_ldc2 (v := 48) hF m_1723 d_X9_print_77 ?_
          refine g_lload_n hF d_X9_print_80 rfl 2 rfl ?_
          refine g_lload hF d_X9_print_81 3 rfl ?_
          refine g_ldiv hF d_X9_print_83 (lne_of c1_68) ?_
          refine g_ldc2 (v := 10) hF m_1721 d_X9_print_84 ?_
          refine g_lrem hF d_X9_print_87 (by decide) ?_
          refine g_anyl (fun w3 => ?_)
          refine g_ladd hF d_X9_print_88 ?_
          refine g_l2i hF d_X9_print_89 ?_
          refine g_any (fun v4 => ?_)
          refine g_callV (As := [.int v4]) (rest := []) hF (c_X9_put a g r σ v4 inv) (Nat.le_of_ble_eq_true rfl) mV_X9_put m_1722 (recv_ob obC_11) rfl rfl (Nat.le_of_ble_eq_true rfl) d_X9_print_90 (k_i (fun r5 σ5 ⟨hz5, iσ5, ik5⟩ => ?_)) (fun _ _ _ h => h.elim)
          have kp : Keep [(11, 2)] [61] σ0 σ5 := keep_c kp ik5 (by decide) (by decide)
          refine g_istore hF [(6, .int r5), (0, .ref (r 11)), (1, .int x1), (2, .long x2), (4, .long x4)] d_X9_print_93 hnn (by decide) rfl ?_
          refine g_lload hF d_X9_print_95 4 rfl ?_
          refine g_ldc2 (v := 10) hF m_1721 d_X9_print_97 ?_
          refine g_ldiv hF d_X9_print_100 (by decide) ?_
          refine g_lstore hF [(4, .long (x4 / (10 : Int64))), (6, .int r5), (0, .ref (r 11)), (1, .int x1), (2, .long x2)] d_X9_print_101 hnn (by decide) rfl ?_
          refine g_goto hF 64 d_X9_print_103 (by decide) ?_
          exact g_sub (L' := [(0, .ref (r 11)), (1, .int x1), (2, .long x2), (4, .long (x4 / (10 : Int64))), (6, .int r5)]) [2, 3, 4, 0, 1] rfl (ih64 _ (N64 ▸ ldn_lt c1_68) σ5 x1 x2 (x4 / (10 : Int64)) r5 rfl iσ5 kp hz5)
  have b12 : ∀ (N : Nat) (σ : St) (x1 : Int32) (x2 : Int64) (x4 : Int64) (x6 : Int32) , upm x6 = N → Inv σ → Keep [(11, 2)] [61] σ0 σ → G SC r X σ Z0 [] [(0, .ref (r 11)), (1, .int x1), (2, .long x2), (4, .long x4), (6, .int x6)] [] 12 := by
    intro M12
    induction M12 using Nat.strongRecOn with
    | _ M12 ih12 =>
      intro σ x1 x2 x4 x6 N12 inv kp
      refine g_iload hF d_X9_print_12 4 rfl ?_
      refine g_bipush hF (v := 10) d_X9_print_14 (by decide) ?_
      refine g_icmp_ge (yv := 10) hF 44 d_X9_print_16 (by decide) rfl (by decide) (fun c6_16 => ?_) (fun c6_16 => ?_)
      · -- taken at 16
        refine g_iload_n hF d_X9_print_44 rfl 1 rfl ?_
        refine g_if_ge hF 57 d_X9_print_45 (by decide) rfl (fun c7_45 => ?_) (fun c7_45 => ?_)
        · -- taken at 45
          refine g_iconst hF (v := 1) d_X9_print_57 (by decide) ?_
          refine g_goto hF 62 d_X9_print_58 (by decide) ?_
          refine g_istore hF [(6, .int 1), (0, .ref (r 11)), (1, .int x1), (2, .long x2), (4, .long x4)] d_X9_print_62 hnn (by decide) rfl ?_
          exact g_sub (L' := [(0, .ref (r 11)), (1, .int x1), (2, .long x2), (4, .long x4), (6, .int 1)]) [1, 2, 3, 4, 0] rfl (b64 _ σ x1 x2 x4 (1 : Int32) rfl inv kp (Or.inr rfl))
        · -- not taken at 45
          refine g_aload_n hF d_X9_print_48 rfl 0 rfl ?_
          refine g_bipush hF (v := 45) d_X9_print_49 (by decide) ?_
          refine g_callV (As := [.int 45]) (rest := []) hF (c_X9_put a g r σ (45 : Int32) inv) (Nat.le_of_ble_eq_true rfl) mV_X9_put m_1722 (recv_ob obC_11) rfl rfl (Nat.le_of_ble_eq_true rfl) d_X9_print_51 (k_i (fun r8 σ8 ⟨hz8, iσ8, ik8⟩ => ?_)) (fun _ _ _ h => h.elim)
          have kp : Keep [(11, 2)] [61] σ0 σ8 := keep_c kp ik8 (by decide) (by decide)
          refine g_if_eq hF 61 d_X9_print_54 (by decide) rfl (fun c9_54 => ?_) (fun c9_54 => ?_)
          · -- taken at 54
            refine g_iconst hF (v := 0) d_X9_print_61 (by decide) ?_
            refine g_istore hF [(6, .int 0), (0, .ref (r 11)), (1, .int x1), (2, .long x2), (4, .long x4)] d_X9_print_62 hnn (by decide) rfl ?_
            exact g_sub (L' := [(0, .ref (r 11)), (1, .int x1), (2, .long x2), (4, .long x4), (6, .int 0)]) [1, 2, 3, 4, 0] rfl (b64 _ σ8 x1 x2 x4 (0 : Int32) rfl iσ8 kp (Or.inl rfl))
          · -- not taken at 54
            refine g_iconst hF (v := 1) d_X9_print_57 (by decide) ?_
            refine g_goto hF 62 d_X9_print_58 (by decide) ?_
            refine g_istore hF [(6, .int 1), (0, .ref (r 11)), (1, .int x1), (2, .long x2), (4, .long x4)] d_X9_print_62 hnn (by decide) rfl ?_
            exact g_sub (L' := [(0, .ref (r 11)), (1, .int x1), (2, .long x2), (4, .long x4), (6, .int 1)]) [1, 2, 3, 4, 0] rfl (b64 _ σ8 x1 x2 x4 (1 : Int32) rfl iσ8 kp (Or.inr rfl))
      · -- not taken at 16
        refine g_lload hF d_X9_print_19 3 rfl ?_
        refine g_ldc2 (v := 10) hF m_1721 d_X9_print_21 ?_
        refine g_lmul hF d_X9_print_24 ?_
        refine g_lload_n hF d_X9_print_25 rfl 2 rfl ?_
        refine g_lcmp hF d_X9_print_26 ?_
        refine g_if_gt hF 44 d_X9_print_27 (by decide) rfl (fun c10_27 => ?_) (fun c10_27 => ?_)
        · -- taken at 27
          refine g_iload_n hF d_X9_print_44 rfl 1 rfl ?_
          refine g_if_ge hF 57 d_X9_print_45 (by decide) rfl (fun c11_45 => ?_) (fun c11_45 => ?_)
          · -- taken at 45
            refine g_iconst hF (v := 1) d_X9_print_57 (by decide) ?_
            refine g_goto hF 62 d_X9_print_58 (by decide) ?_
            refine g_istore hF [(6, .int 1), (0, .ref (r 11)), (1, .int x1), (2, .long x2), (4, .long x4)] d_X9_print_62 hnn (by decide) rfl ?_
            exact g_sub (L' := [(0, .ref (r 11)), (1, .int x1), (2, .long x2), (4, .long x4), (6, .int 1)]) [1, 2, 3, 4, 0] rfl (b64 _ σ x1 x2 x4 (1 : Int32) rfl inv kp (Or.inr rfl))
          · -- not taken at 45
            refine g_aload_n hF d_X9_print_48 rfl 0 rfl ?_
            refine g_bipush hF (v := 45) d_X9_print_49 (by decide) ?_
            refine g_callV (As := [.int 45]) (rest := []) hF (c_X9_put a g r σ (45 : Int32) inv) (Nat.le_of_ble_eq_true rfl) mV_X9_put m_1722 (recv_ob obC_11) rfl rfl (Nat.le_of_ble_eq_true rfl) d_X9_print_51 (k_i (fun r12 σ12 ⟨hz12, iσ12, ik12⟩ => ?_)) (fun _ _ _ h => h.elim)
            have kp : Keep [(11, 2)] [61] σ0 σ12 := keep_c kp ik12 (by decide) (by decide)
            refine g_if_eq hF 61 d_X9_print_54 (by decide) rfl (fun c13_54 => ?_) (fun c13_54 => ?_)
            · -- taken at 54
              refine g_iconst hF (v := 0) d_X9_print_61 (by decide) ?_
              refine g_istore hF [(6, .int 0), (0, .ref (r 11)), (1, .int x1), (2, .long x2), (4, .long x4)] d_X9_print_62 hnn (by decide) rfl ?_
              exact g_sub (L' := [(0, .ref (r 11)), (1, .int x1), (2, .long x2), (4, .long x4), (6, .int 0)]) [1, 2, 3, 4, 0] rfl (b64 _ σ12 x1 x2 x4 (0 : Int32) rfl iσ12 kp (Or.inl rfl))
            · -- not taken at 54
              refine g_iconst hF (v := 1) d_X9_print_57 (by decide) ?_
              refine g_goto hF 62 d_X9_print_58 (by decide) ?_
              refine g_istore hF [(6, .int 1), (0, .ref (r 11)), (1, .int x1), (2, .long x2), (4, .long x4)] d_X9_print_62 hnn (by decide) rfl ?_
              exact g_sub (L' := [(0, .ref (r 11)), (1, .int x1), (2, .long x2), (4, .long x4), (6, .int 1)]) [1, 2, 3, 4, 0] rfl (b64 _ σ12 x1 x2 x4 (1 : Int32) rfl iσ12 kp (Or.inr rfl))
        · -- not taken at 27
          refine g_lload hF d_X9_print_30 3 rfl ?_
          refine g_ldc2 (v := 10) hF m_1721 d_X9_print_32 ?_
          refine g_lmul hF d_X9_print_35 ?_
          refine g_lstore hF [(4, .long (x4 * (10 : Int64))), (0, .ref (r 11)), (1, .int x1), (2, .long x2), (6, .int x6)] d_X9_print_36 hnn (by decide) rfl ?_
          refine g_iinc hF (x6 + 1) [(6, .int (x6 + 1)), (4, .long (x4 * (10 : Int64))), (0, .ref (r 11)), (1, .int x1), (2, .long x2)] d_X9_print_38 4 rfl rfl hnn (by decide) rfl ?_
          refine g_goto hF 12 d_X9_print_41 (by decide) ?_
          exact g_sub (L' := [(0, .ref (r 11)), (1, .int x1), (2, .long x2), (4, .long (x4 * (10 : Int64))), (6, .int (x6 + 1))]) [2, 3, 4, 1, 0] rfl (ih12 _ (N12 ▸ upm_lt c6_16 (by decide)) σ x1 x2 (x4 * (10 : Int64)) (x6 + 1) rfl inv kp)
  have kp : Keep [(11, 2)] [61] σ0 σ0 := keep_rf
  refine g_iload_n hF d_X9_print_0 rfl 1 rfl ?_
  refine g_i2l hF d_X9_print_1 ?_
  refine g_anyl (fun w14 => ?_)
  refine g_mabs_long hF (Nat.le_of_ble_eq_true rfl) m_1718 m_1719 m_23 m_1720 (Nat.le_of_ble_eq_true rfl) d_X9_print_2 ?_
  refine g_anyl (fun w16 => ?_)
  refine g_lstore_n hF [(2, .long w16), (0, .ref (r 11)), (1, .int a1)] d_X9_print_5 rfl hnn (by decide) rfl ?_
  refine g_lconst hF (v := 1) d_X9_print_6 (by decide) ?_
  refine g_lstore hF [(4, .long 1), (2, .long w16), (0, .ref (r 11)), (1, .int a1)] d_X9_print_7 hnn (by decide) rfl ?_
  refine g_iconst hF (v := 0) d_X9_print_9 (by decide) ?_
  refine g_istore hF [(6, .int 0), (4, .long 1), (2, .long w16), (0, .ref (r 11)), (1, .int a1)] d_X9_print_10 hnn (by decide) rfl ?_
  exact g_sub (L' := [(0, .ref (r 11)), (1, .int a1), (2, .long w16), (4, .long 1), (6, .int 0)]) [3, 4, 2, 1, 0] rfl (b12 _ σ0 a1 w16 (1 : Int64) (0 : Int32) rfl i0 kp)
set_option maxHeartbeats 4000000 in
set_option maxRecDepth 100000 in
theorem c_X0_settle_r4_r48 (a : Nat → Nat) (g : Nat → Nat → Int32) (r : Nat → Nat) (σ0 : St) (a1 : Int32) (i0 : Inv σ0) (l : Launch) (D : va_G) (cy : Nat → ClassId) : Ct l D cy SC r (EC a g) y_X0_settle (Cond.code y_X0_settle b_X0_settle 7 none) 1 [.ref (r 4), .int a1, .ref (r 48)] σ0 Z0 [] (QV (fun σ9 => (Inv σ9 ∧ Keep [] [24] σ0 σ9))) QF := by
  refine Ct_of (EC_ok a g) (by decide) (Nat.le_of_ble_eq_true rfl) (by decide) (fun X hnn hF => ?_)
  show G SC r X σ0 Z0 [] [(0, .ref (r 4)), (1, .int a1), (2, .ref (r 48))] [] 0
  have b8 : ∀ (N : Nat) (σ : St) (x1 : Int32) (x3 : Int32) (x4 : Int32) , dnm x4 = N → Inv σ → Keep [] [24] σ0 σ → G SC r X σ Z0 [] [(0, .ref (r 4)), (1, .int x1), (2, .ref (r 48)), (3, .int x3), (4, .int x4)] [] 8 := by
    intro M8
    induction M8 using Nat.strongRecOn with
    | _ M8 ih8 =>
      intro σ x1 x3 x4 N8 inv kp
      refine g_iload hF d_X0_settle_8 4 rfl ?_
      refine g_if_le hF 140 d_X0_settle_10 (by decide) rfl (fun c1_10 => ?_) (fun c1_10 => ?_)
      · -- taken at 10
        exact g_vret hF rfl d_X0_settle_140 ⟨rfl, rfl, rfl, ⟨inv, kp⟩⟩
      · -- not taken at 10
        refine g_iload_n hF d_X0_settle_13 rfl 3 rfl ?_
        refine g_aload_n hF d_X0_settle_14 rfl 0 rfl ?_
        refine g_get (v := .int (σ 4 1)) hF 1 obC_4 (by decide) m_152 rfl d_X0_settle_15 ?_
        refine g_icmp_ge hF 140 d_X0_settle_18 (by decide) rfl rfl (fun c2_18 => ?_) (fun c2_18 => ?_)
        · -- taken at 18
          exact g_vret hF rfl d_X0_settle_140 ⟨rfl, rfl, rfl, ⟨inv, kp⟩⟩
        · -- not taken at 18
          refine g_aload_n hF d_X0_settle_21 rfl 0 rfl ?_
          refine g_get (v := .ref (r 24)) hF 0 obC_4 (by decide) m_149 rfl d_X0_settle_22 ?_
          refine g_iload_n hF d_X0_settle_25 rfl 3 rfl ?_
          refine g_callSN (As := [.ref (r 24), .int x3]) (rest := []) hF (c_at a g r σ arC_24 (by decide) x3) (Nat.le_of_ble_eq_true rfl) mS_X12_at nm_1213 rfl rfl (Nat.le_of_ble_eq_true rfl) d_X0_settle_26 (k_rop (fun r3 hr3 => ?_))
          refine g_istore hF [(5, .int r3), (0, .ref (r 4)), (1, .int x1), (2, .ref (r 48)), (3, .int x3), (4, .int x4)] d_X0_settle_29 hnn (by decide) rfl ?_
          refine g_aload_n hF d_X0_settle_31 rfl 3 rfl ?_
          refine g_aload_n hF d_X0_settle_32 rfl 1 rfl ?_
          refine g_get (v := .ref (r 24)) hF 0 obC_4 (by decide) m_149 rfl d_X0_settle_33 ?_
          refine g_iload_n hF d_X0_settle_36 rfl 4 rfl ?_
          refine g_iconst hF (v := 1) d_X0_settle_37 (by decide) ?_
          refine g_iadd hF d_X0_settle_38 ?_
          refine g_callSN (As := [.ref (r 24), .int (x3 + 1)]) (rest := [.ref (r 48)]) hF (c_at a g r σ arC_24 (by decide) (x3 + 1)) (Nat.le_of_ble_eq_true rfl) mS_X12_at nm_1213 rfl rfl (Nat.le_of_ble_eq_true rfl) d_X0_settle_39 (k_rop (fun r4 hr4 => ?_))
          refine g_callSN (As := [.ref (r 48), .int r4]) (rest := []) hF (c_at a g r σ arC_48 (by decide) r4) (Nat.le_of_ble_eq_true rfl) mS_X12_at nm_1213 rfl rfl (Nat.le_of_ble_eq_true rfl) d_X0_settle_42 (k_rop (fun r5 hr5 => ?_))
          refine g_istore hF [(6, .int r5), (5, .int r3), (0, .ref (r 4)), (1, .int x1), (2, .ref (r 48)), (3, .int x3), (4, .int x4)] d_X0_settle_45 hnn (by decide) rfl ?_
          refine g_iload hF d_X0_settle_47 1 rfl ?_
          refine g_bipush hF (v := 8) d_X0_settle_49 (by decide) ?_
          refine g_icmp_lt (yv := 8) hF 93 d_X0_settle_51 (by decide) rfl (by decide) (fun c6_51 => ?_) (fun c6_51 => ?_)
          · -- taken at 51
            refine g_iload hF d_X0_settle_93 1 rfl ?_
            refine g_bipush hF (v := 14) d_X0_settle_95 (by decide) ?_
            refine g_icmp_lt (yv := 14) hF 119 d_X0_settle_97 (by decide) rfl (by decide) (fun c7_97 => ?_) (fun c7_97 => ?_)
            · -- taken at 97
              refine g_iload_n hF d_X0_settle_119 rfl 5 rfl ?_
              refine g_gets hF (fun A s h => EC_z1 h) m_1075 d_X0_settle_120 ?_
              refine g_iload hF d_X0_settle_123 1 rfl ?_
              refine g_callSN (As := [.ref (a 1), .int r3]) (rest := [.int x3]) hF (c_att1 a g r σ r3) (Nat.le_of_ble_eq_true rfl) mS_X12_at nm_1213 rfl rfl (Nat.le_of_ble_eq_true rfl) d_X0_settle_125 (k_ro (fun r8 => ?_))
              refine g_iconst hF (v := 1) d_X0_settle_128 (by decide) ?_
              refine g_mmax hF (Nat.le_of_ble_eq_true rfl) m_1468 m_1131 m_23 m_1132 (Nat.le_of_ble_eq_true rfl) d_X0_settle_129 ?_
              refine g_nm (fun v10 ev10 => ?_)
              have mv10 := s_max ev10
              refine g_iadd hF d_X0_settle_132 ?_
              refine g_istore_n hF [(3, .int (x3 + v10)), (6, .int r5), (5, .int r3), (0, .ref (r 4)), (1, .int x1), (2, .ref (r 48)), (4, .int x4)] d_X0_settle_133 rfl hnn (by decide) rfl ?_
              refine g_iinc hF (x4 + (-1)) [(4, .int (x4 + (-1))), (3, .int (x3 + v10)), (6, .int r5), (5, .int r3), (0, .ref (r 4)), (1, .int x1), (2, .ref (r 48))] d_X0_settle_134 6 rfl rfl hnn (by decide) rfl ?_
              refine g_goto hF 8 d_X0_settle_137 (by decide) ?_
              exact g_sub (L' := [(0, .ref (r 4)), (1, .int x1), (2, .ref (r 48)), (3, .int (x3 + v10)), (4, .int (x4 + (-1)))]) [4, 5, 6, 1, 0] rfl (ih8 _ (N8 ▸ dnm_lt c1_10 (by decide)) σ x1 (x3 + v10) (x4 + (-1)) rfl inv kp)
            · -- not taken at 97
              refine g_iload hF d_X0_settle_100 1 rfl ?_
              refine g_bipush hF (v := 17) d_X0_settle_102 (by decide) ?_
              refine g_icmp_gt (yv := 17) hF 119 d_X0_settle_104 (by decide) rfl (by decide) (fun c11_104 => ?_) (fun c11_104 => ?_)
              · -- taken at 104
                refine g_iload_n hF d_X0_settle_119 rfl 5 rfl ?_
                refine g_gets hF (fun A s h => EC_z1 h) m_1075 d_X0_settle_120 ?_
                refine g_iload hF d_X0_settle_123 1 rfl ?_
                refine g_callSN (As := [.ref (a 1), .int r3]) (rest := [.int x3]) hF (c_att1 a g r σ r3) (Nat.le_of_ble_eq_true rfl) mS_X12_at nm_1213 rfl rfl (Nat.le_of_ble_eq_true rfl) d_X0_settle_125 (k_ro (fun r12 => ?_))
                refine g_iconst hF (v := 1) d_X0_settle_128 (by decide) ?_
                refine g_mmax hF (Nat.le_of_ble_eq_true rfl) m_1468 m_1131 m_23 m_1132 (Nat.le_of_ble_eq_true rfl) d_X0_settle_129 ?_
                refine g_nm (fun v14 ev14 => ?_)
                have mv14 := s_max ev14
                refine g_iadd hF d_X0_settle_132 ?_
                refine g_istore_n hF [(3, .int (x3 + v14)), (6, .int r5), (5, .int r3), (0, .ref (r 4)), (1, .int x1), (2, .ref (r 48)), (4, .int x4)] d_X0_settle_133 rfl hnn (by decide) rfl ?_
                refine g_iinc hF (x4 + (-1)) [(4, .int (x4 + (-1))), (3, .int (x3 + v14)), (6, .int r5), (5, .int r3), (0, .ref (r 4)), (1, .int x1), (2, .ref (r 48))] d_X0_settle_134 6 rfl rfl hnn (by decide) rfl ?_
                refine g_goto hF 8 d_X0_settle_137 (by decide) ?_
                exact g_sub (L' := [(0, .ref (r 4)), (1, .int x1), (2, .ref (r 48)), (3, .int (x3 + v14)), (4, .int (x4 + (-1)))]) [4, 5, 6, 1, 0] rfl (ih8 _ (N8 ▸ dnm_lt c1_10 (by decide)) σ x1 (x3 + v14) (x4 + (-1)) rfl inv kp)
              · -- not taken at 104
                refine g_aload_n hF d_X0_settle_107 rfl 2 rfl ?_
                refine g_get (v := .ref (r 24)) hF 0 obC_4 (by decide) m_149 rfl d_X0_settle_108 ?_
                refine g_iload_n hF d_X0_settle_111 rfl 5 rfl ?_
                refine g_iconst hF (v := 1) d_X0_settle_112 (by decide) ?_
                refine g_iadd hF d_X0_settle_113 ?_
                refine g_iload hF d_X0_settle_114 0 rfl ?_
                refine g_callSN (As := [.ref (r 24), .int (x3 + 1), .int r5]) (rest := []) hF (c_set a g r σ arC_24 (by decide) (x3 + 1) r5) (Nat.le_of_ble_eq_true rfl) mS_X12_set nm_1214 rfl rfl (Nat.le_of_ble_eq_true rfl) d_X0_settle_116 (k_v (fun σ15 ⟨g15, eσ15, hg15⟩ => ?_))
                subst eσ15
                have kp : Keep [] [24] σ0 (upF σ 24 g15) := keep_F kp (by decide)
                refine g_iload_n hF d_X0_settle_119 rfl 5 rfl ?_
                refine g_gets hF (fun A s h => EC_z1 h) m_1075 d_X0_settle_120 ?_
                refine g_iload hF d_X0_settle_123 1 rfl ?_
                refine g_callSN (As := [.ref (a 1), .int r3]) (rest := [.int x3]) hF (c_att1 a g r (upF σ 24 g15) r3) (Nat.le_of_ble_eq_true rfl) mS_X12_at nm_1213 rfl rfl (Nat.le_of_ble_eq_true rfl) d_X0_settle_125 (k_ro (fun r16 => ?_))
                refine g_iconst hF (v := 1) d_X0_settle_128 (by decide) ?_
                refine g_mmax hF (Nat.le_of_ble_eq_true rfl) m_1468 m_1131 m_23 m_1132 (Nat.le_of_ble_eq_true rfl) d_X0_settle_129 ?_
                refine g_nm (fun v18 ev18 => ?_)
                have mv18 := s_max ev18
                refine g_iadd hF d_X0_settle_132 ?_
                refine g_istore_n hF [(3, .int (x3 + v18)), (6, .int r5), (5, .int r3), (0, .ref (r 4)), (1, .int x1), (2, .ref (r 48)), (4, .int x4)] d_X0_settle_133 rfl hnn (by decide) rfl ?_
                refine g_iinc hF (x4 + (-1)) [(4, .int (x4 + (-1))), (3, .int (x3 + v18)), (6, .int r5), (5, .int r3), (0, .ref (r 4)), (1, .int x1), (2, .ref (r 48))] d_X0_settle_134 6 rfl rfl hnn (by decide) rfl ?_
                refine g_goto hF 8 d_X0_settle_137 (by decide) ?_
                have j19 : Inv (upF σ 24 g15) := ⟨inv.1, inv.2.1, inv.2.2.1, inv.2.2.2.1, inv.2.2.2.2.1, inv.2.2.2.2.2.1, inv.2.2.2.2.2.2.1, inv.2.2.2.2.2.2.2.1, inv.2.2.2.2.2.2.2.2.1, inv.2.2.2.2.2.2.2.2.2.1, inv.2.2.2.2.2.2.2.2.2.2.1, inv.2.2.2.2.2.2.2.2.2.2.2.1, inv.2.2.2.2.2.2.2.2.2.2.2.2.1, inv.2.2.2.2.2.2.2.2.2.2.2.2.2.1, inv.2.2.2.2.2.2.2.2.2.2.2.2.2.2.1, inv.2.2.2.2.2.2.2.2.2.2.2.2.2.2.2.1, inv.2.2.2.2.2.2.2.2.2.2.2.2.2.2.2.2.1, inv.2.2.2.2.2.2.2.2.2.2.2.2.2.2.2.2.2.1, inv.2.2.2.2.2.2.2.2.2.2.2.2.2.2.2.2.2.2.1, inv.2.2.2.2.2.2.2.2.2.2.2.2.2.2.2.2.2.2.2⟩
                exact g_sub (L' := [(0, .ref (r 4)), (1, .int x1), (2, .ref (r 48)), (3, .int (x3 + v18)), (4, .int (x4 + (-1)))]) [4, 5, 6, 1, 0] rfl (ih8 _ (N8 ▸ dnm_lt c1_10 (by decide)) (upF σ 24 g15) x1 (x3 + v18) (x4 + (-1)) rfl j19 kp)
          · -- not taken at 51
            refine g_iload hF d_X0_settle_54 1 rfl ?_
            refine g_bipush hF (v := 10) d_X0_settle_56 (by decide) ?_
            refine g_icmp_gt (yv := 10) hF 93 d_X0_settle_58 (by decide) rfl (by decide) (fun c20_58 => ?_) (fun c20_58 => ?_)
            · -- taken at 58
              refine g_iload hF d_X0_settle_93 1 rfl ?_
              refine g_bipush hF (v := 14) d_X0_settle_95 (by decide) ?_
              refine g_icmp_lt (yv := 14) hF 119 d_X0_settle_97 (by decide) rfl (by decide) (fun c21_97 => ?_) (fun c21_97 => ?_)
              · -- taken at 97
                refine g_iload_n hF d_X0_settle_119 rfl 5 rfl ?_
                refine g_gets hF (fun A s h => EC_z1 h) m_1075 d_X0_settle_120 ?_
                refine g_iload hF d_X0_settle_123 1 rfl ?_
                refine g_callSN (As := [.ref (a 1), .int r3]) (rest := [.int x3]) hF (c_att1 a g r σ r3) (Nat.le_of_ble_eq_true rfl) mS_X12_at nm_1213 rfl rfl (Nat.le_of_ble_eq_true rfl) d_X0_settle_125 (k_ro (fun r22 => ?_))
                refine g_iconst hF (v := 1) d_X0_settle_128 (by decide) ?_
                refine g_mmax hF (Nat.le_of_ble_eq_true rfl) m_1468 m_1131 m_23 m_1132 (Nat.le_of_ble_eq_true rfl) d_X0_settle_129 ?_
                refine g_nm (fun v24 ev24 => ?_)
                have mv24 := s_max ev24
                refine g_iadd hF d_X0_settle_132 ?_
                refine g_istore_n hF [(3, .int (x3 + v24)), (6, .int r5), (5, .int r3), (0, .ref (r 4)), (1, .int x1), (2, .ref (r 48)), (4, .int x4)] d_X0_settle_133 rfl hnn (by decide) rfl ?_
                refine g_iinc hF (x4 + (-1)) [(4, .int (x4 + (-1))), (3, .int (x3 + v24)), (6, .int r5), (5, .int r3), (0, .ref (r 4)), (1, .int x1), (2, .ref (r 48))] d_X0_settle_134 6 rfl rfl hnn (by decide) rfl ?_
                refine g_goto hF 8 d_X0_settle_137 (by decide) ?_
                exact g_sub (L' := [(0, .ref (r 4)), (1, .int x1), (2, .ref (r 48)), (3, .int (x3 + v24)), (4, .int (x4 + (-1)))]) [4, 5, 6, 1, 0] rfl (ih8 _ (N8 ▸ dnm_lt c1_10 (by decide)) σ x1 (x3 + v24) (x4 + (-1)) rfl inv kp)
              · -- not taken at 97
                refine g_iload hF d_X0_settle_100 1 rfl ?_
                refine g_bipush hF (v := 17) d_X0_settle_102 (by decide) ?_
                refine g_icmp_gt (yv := 17) hF 119 d_X0_settle_104 (by decide) rfl (by decide) (fun c25_104 => ?_) (fun c25_104 => ?_)
                · -- taken at 104
                  refine g_iload_n hF d_X0_settle_119 rfl 5 rfl ?_
                  refine g_gets hF (fun A s h => EC_z1 h) m_1075 d_X0_settle_120 ?_
                  refine g_iload hF d_X0_settle_123 1 rfl ?_
                  refine g_callSN (As := [.ref (a 1), .int r3]) (rest := [.int x3]) hF (c_att1 a g r σ r3) (Nat.le_of_ble_eq_true rfl) mS_X12_at nm_1213 rfl rfl (Nat.le_of_ble_eq_true rfl) d_X0_settle_125 (k_ro (fun r26 => ?_))
                  refine g_iconst hF (v := 1) d_X0_settle_128 (by decide) ?_
                  refine g_mmax hF (Nat.le_of_ble_eq_true rfl) m_1468 m_1131 m_23 m_1132 (Nat.le_of_ble_eq_true rfl) d_X0_settle_129 ?_
                  refine g_nm (fun v28 ev28 => ?_)
                  have mv28 := s_max ev28
                  refine g_iadd hF d_X0_settle_132 ?_
                  refine g_istore_n hF [(3, .int (x3 + v28)), (6, .int r5), (5, .int r3), (0, .ref (r 4)), (1, .int x1), (2, .ref (r 48)), (4, .int x4)] d_X0_settle_133 rfl hnn (by decide) rfl ?_
                  refine g_iinc hF (x4 + (-1)) [(4, .int (x4 + (-1))), (3, .int (x3 + v28)), (6, .int r5), (5, .int r3), (0, .ref (r 4)), (1, .int x1), (2, .ref (r 48))] d_X0_settle_134 6 rfl rfl hnn (by decide) rfl ?_
                  refine g_goto hF 8 d_X0_settle_137 (by decide) ?_
                  exact g_sub (L' := [(0, .ref (r 4)), (1, .int x1), (2, .ref (r 48)), (3, .int (x3 + v28)), (4, .int (x4 + (-1)))]) [4, 5, 6, 1, 0] rfl (ih8 _ (N8 ▸ dnm_lt c1_10 (by decide)) σ x1 (x3 + v28) (x4 + (-1)) rfl inv kp)
                · -- not taken at 104
                  refine g_aload_n hF d_X0_settle_107 rfl 2 rfl ?_
                  refine g_get (v := .ref (r 24)) hF 0 obC_4 (by decide) m_149 rfl d_X0_settle_108 ?_
                  refine g_iload_n hF d_X0_settle_111 rfl 5 rfl ?_
                  refine g_iconst hF (v := 1) d_X0_settle_112 (by decide) ?_
                  refine g_iadd hF d_X0_settle_113 ?_
                  refine g_iload hF d_X0_settle_114 0 rfl ?_
                  refine g_callSN (As := [.ref (r 24), .int (x3 + 1), .int r5]) (rest := []) hF (c_set a g r σ arC_24 (by decide) (x3 + 1) r5) (Nat.le_of_ble_eq_true rfl) mS_X12_set nm_1214 rfl rfl (Nat.le_of_ble_eq_true rfl) d_X0_settle_116 (k_v (fun σ29 ⟨g29, eσ29, hg29⟩ => ?_))
                  subst eσ29
                  have kp : Keep [] [24] σ0 (upF σ 24 g29) := keep_F kp (by decide)
                  refine g_iload_n hF d_X0_settle_119 rfl 5 rfl ?_
                  refine g_gets hF (fun A s h => EC_z1 h) m_1075 d_X0_settle_120 ?_
                  refine g_iload hF d_X0_settle_123 1 rfl ?_
                  refine g_callSN (As := [.ref (a 1), .int r3]) (rest := [.int x3]) hF (c_att1 a g r (upF σ 24 g29) r3) (Nat.le_of_ble_eq_true rfl) mS_X12_at nm_1213 rfl rfl (Nat.le_of_ble_eq_true rfl) d_X0_settle_125 (k_ro (fun r30 => ?_))
                  refine g_iconst hF (v := 1) d_X0_settle_128 (by decide) ?_
                  refine g_mmax hF (Nat.le_of_ble_eq_true rfl) m_1468 m_1131 m_23 m_1132 (Nat.le_of_ble_eq_true rfl) d_X0_settle_129 ?_
                  refine g_nm (fun v32 ev32 => ?_)
                  have mv32 := s_max ev32
                  refine g_iadd hF d_X0_settle_132 ?_
                  refine g_istore_n hF [(3, .int (x3 + v32)), (6, .int r5), (5, .int r3), (0, .ref (r 4)), (1, .int x1), (2, .ref (r 48)), (4, .int x4)] d_X0_settle_133 rfl hnn (by decide) rfl ?_
                  refine g_iinc hF (x4 + (-1)) [(4, .int (x4 + (-1))), (3, .int (x3 + v32)), (6, .int r5), (5, .int r3), (0, .ref (r 4)), (1, .int x1), (2, .ref (r 48))] d_X0_settle_134 6 rfl rfl hnn (by decide) rfl ?_
                  refine g_goto hF 8 d_X0_settle_137 (by decide) ?_
                  have j33 : Inv (upF σ 24 g29) := ⟨inv.1, inv.2.1, inv.2.2.1, inv.2.2.2.1, inv.2.2.2.2.1, inv.2.2.2.2.2.1, inv.2.2.2.2.2.2.1, inv.2.2.2.2.2.2.2.1, inv.2.2.2.2.2.2.2.2.1, inv.2.2.2.2.2.2.2.2.2.1, inv.2.2.2.2.2.2.2.2.2.2.1, inv.2.2.2.2.2.2.2.2.2.2.2.1, inv.2.2.2.2.2.2.2.2.2.2.2.2.1, inv.2.2.2.2.2.2.2.2.2.2.2.2.2.1, inv.2.2.2.2.2.2.2.2.2.2.2.2.2.2.1, inv.2.2.2.2.2.2.2.2.2.2.2.2.2.2.2.1, inv.2.2.2.2.2.2.2.2.2.2.2.2.2.2.2.2.1, inv.2.2.2.2.2.2.2.2.2.2.2.2.2.2.2.2.2.1, inv.2.2.2.2.2.2.2.2.2.2.2.2.2.2.2.2.2.2.1, inv.2.2.2.2.2.2.2.2.2.2.2.2.2.2.2.2.2.2.2⟩
                  exact g_sub (L' := [(0, .ref (r 4)), (1, .int x1), (2, .ref (r 48)), (3, .int (x3 + v32)), (4, .int (x4 + (-1)))]) [4, 5, 6, 1, 0] rfl (ih8 _ (N8 ▸ dnm_lt c1_10 (by decide)) (upF σ 24 g29) x1 (x3 + v32) (x4 + (-1)) rfl j33 kp)
            · -- not taken at 58
              refine g_iload hF d_X0_settle_61 0 rfl ?_
              refine g_if_lt hF 93 d_X0_settle_63 (by decide) rfl (fun c34_63 => ?_) (fun c34_63 => ?_)
              · -- taken at 63
                refine g_iload hF d_X0_settle_93 1 rfl ?_
                refine g_bipush hF (v := 14) d_X0_settle_95 (by decide) ?_
                refine g_icmp_lt (yv := 14) hF 119 d_X0_settle_97 (by decide) rfl (by decide) (fun c35_97 => ?_) (fun c35_97 => ?_)
                · -- taken at 97
                  refine g_iload_n hF d_X0_settle_119 rfl 5 rfl ?_
                  refine g_gets hF (fun A s h => EC_z1 h) m_1075 d_X0_settle_120 ?_
                  refine g_iload hF d_X0_settle_123 1 rfl ?_
                  refine g_callSN (As := [.ref (a 1), .int r3]) (rest := [.int x3]) hF (c_att1 a g r σ r3) (Nat.le_of_ble_eq_true rfl) mS_X12_at nm_1213 rfl rfl (Nat.le_of_ble_eq_true rfl) d_X0_settle_125 (k_ro (fun r36 => ?_))
                  refine g_iconst hF (v := 1) d_X0_settle_128 (by decide) ?_
                  refine g_mmax hF (Nat.le_of_ble_eq_true rfl) m_1468 m_1131 m_23 m_1132 (Nat.le_of_ble_eq_true rfl) d_X0_settle_129 ?_
                  refine g_nm (fun v38 ev38 => ?_)
                  have mv38 := s_max ev38
                  refine g_iadd hF d_X0_settle_132 ?_
                  refine g_istore_n hF [(3, .int (x3 + v38)), (6, .int r5), (5, .int r3), (0, .ref (r 4)), (1, .int x1), (2, .ref (r 48)), (4, .int x4)] d_X0_settle_133 rfl hnn (by decide) rfl ?_
                  refine g_iinc hF (x4 + (-1)) [(4, .int (x4 + (-1))), (3, .int (x3 + v38)), (6, .int r5), (5, .int r3), (0, .ref (r 4)), (1, .int x1), (2, .ref (r 48))] d_X0_settle_134 6 rfl rfl hnn (by decide) rfl ?_
                  refine g_goto hF 8 d_X0_settle_137 (by decide) ?_
                  exact g_sub (L' := [(0, .ref (r 4)), (1, .int x1), (2, .ref (r 48)), (3, .int (x3 + v38)), (4, .int (x4 + (-1)))]) [4, 5, 6, 1, 0] rfl (ih8 _ (N8 ▸ dnm_lt c1_10 (by decide)) σ x1 (x3 + v38) (x4 + (-1)) rfl inv kp)
                · -- not taken at 97
                  refine g_iload hF d_X0_settle_100 1 rfl ?_
                  refine g_bipush hF (v := 17) d_X0_settle_102 (by decide) ?_
                  refine g_icmp_gt (yv := 17) hF 119 d_X0_settle_104 (by decide) rfl (by decide) (fun c39_104 => ?_) (fun c39_104 => ?_)
                  · -- taken at 104
                    refine g_iload_n hF d_X0_settle_119 rfl 5 rfl ?_
                    refine g_gets hF (fun A s h => EC_z1 h) m_1075 d_X0_settle_120 ?_
                    refine g_iload hF d_X0_settle_123 1 rfl ?_
                    refine g_callSN (As := [.ref (a 1), .int r3]) (rest := [.int x3]) hF (c_att1 a g r σ r3) (Nat.le_of_ble_eq_true rfl) mS_X12_at nm_1213 rfl rfl (Nat.le_of_ble_eq_true rfl) d_X0_settle_125 (k_ro (fun r40 => ?_))
                    refine g_iconst hF (v := 1) d_X0_settle_128 (by decide) ?_
                    refine g_mmax hF (Nat.le_of_ble_eq_true rfl) m_1468 m_1131 m_23 m_1132 (Nat.le_of_ble_eq_true rfl) d_X0_settle_129 ?_
                    refine g_nm (fun v42 ev42 => ?_)
                    have mv42 := s_max ev42
                    refine g_iadd hF d_X0_settle_132 ?_
                    refine g_istore_n hF [(3, .int (x3 + v42)), (6, .int r5), (5, .int r3), (0, .ref (r 4)), (1, .int x1), (2, .ref (r 48)), (4, .int x4)] d_X0_settle_133 rfl hnn (by decide) rfl ?_
                    refine g_iinc hF (x4 + (-1)) [(4, .int (x4 + (-1))), (3, .int (x3 + v42)), (6, .int r5), (5, .int r3), (0, .ref (r 4)), (1, .int x1), (2, .ref (r 48))] d_X0_settle_134 6 rfl rfl hnn (by decide) rfl ?_
                    refine g_goto hF 8 d_X0_settle_137 (by decide) ?_
                    exact g_sub (L' := [(0, .ref (r 4)), (1, .int x1), (2, .ref (r 48)), (3, .int (x3 + v42)), (4, .int (x4 + (-1)))]) [4, 5, 6, 1, 0] rfl (ih8 _ (N8 ▸ dnm_lt c1_10 (by decide)) σ x1 (x3 + v42) (x4 + (-1)) rfl inv kp)
                  · -- not taken at 104
                    refine g_aload_n hF d_X0_settle_107 rfl 2 rfl ?_
                    refine g_get (v := .ref (r 24)) hF 0 obC_4 (by decide) m_149 rfl d_X0_settle_108 ?_
                    refine g_iload_n hF d_X0_settle_111 rfl 5 rfl ?_
                    refine g_iconst hF (v := 1) d_X0_settle_112 (by decide) ?_
                    refine g_iadd hF d_X0_settle_113 ?_
                    refine g_iload hF d_X0_settle_114 0 rfl ?_
                    refine g_callSN (As := [.ref (r 24), .int (x3 + 1), .int r5]) (rest := []) hF (c_set a g r σ arC_24 (by decide) (x3 + 1) r5) (Nat.le_of_ble_eq_true rfl) mS_X12_set nm_1214 rfl rfl (Nat.le_of_ble_eq_true rfl) d_X0_settle_116 (k_v (fun σ43 ⟨g43, eσ43, hg43⟩ => ?_))
                    subst eσ43
                    have kp : Keep [] [24] σ0 (upF σ 24 g43) := keep_F kp (by decide)
                    refine g_iload_n hF d_X0_settle_119 rfl 5 rfl ?_
                    refine g_gets hF (fun A s h => EC_z1 h) m_1075 d_X0_settle_120 ?_
                    refine g_iload hF d_X0_settle_123 1 rfl ?_
                    refine g_callSN (As := [.ref (a 1), .int r3]) (rest := [.int x3]) hF (c_att1 a g r (upF σ 24 g43) r3) (Nat.le_of_ble_eq_true rfl) mS_X12_at nm_1213 rfl rfl (Nat.le_of_ble_eq_true rfl) d_X0_settle_125 (k_ro (fun r44 => ?_))
                    refine g_iconst hF (v := 1) d_X0_settle_128 (by decide) ?_
                    refine g_mmax hF (Nat.le_of_ble_eq_true rfl) m_1468 m_1131 m_23 m_1132 (Nat.le_of_ble_eq_true rfl) d_X0_settle_129 ?_
                    refine g_nm (fun v46 ev46 => ?_)
                    have mv46 := s_max ev46
                    refine g_iadd hF d_X0_settle_132 ?_
                    refine g_istore_n hF [(3, .int (x3 + v46)), (6, .int r5), (5, .int r3), (0, .ref (r 4)), (1, .int x1), (2, .ref (r 48)), (4, .int x4)] d_X0_settle_133 rfl hnn (by decide) rfl ?_
                    refine g_iinc hF (x4 + (-1)) [(4, .int (x4 + (-1))), (3, .int (x3 + v46)), (6, .int r5), (5, .int r3), (0, .ref (r 4)), (1, .int x1), (2, .ref (r 48))] d_X0_settle_134 6 rfl rfl hnn (by decide) rfl ?_
                    refine g_goto hF 8 d_X0_settle_137 (by decide) ?_
                    have j47 : Inv (upF σ 24 g43) := ⟨inv.1, inv.2.1, inv.2.2.1, inv.2.2.2.1, inv.2.2.2.2.1, inv.2.2.2.2.2.1, inv.2.2.2.2.2.2.1, inv.2.2.2.2.2.2.2.1, inv.2.2.2.2.2.2.2.2.1, inv.2.2.2.2.2.2.2.2.2.1, inv.2.2.2.2.2.2.2.2.2.2.1, inv.2.2.2.2.2.2.2.2.2.2.2.1, inv.2.2.2.2.2.2.2.2.2.2.2.2.1, inv.2.2.2.2.2.2.2.2.2.2.2.2.2.1, inv.2.2.2.2.2.2.2.2.2.2.2.2.2.2.1, inv.2.2.2.2.2.2.2.2.2.2.2.2.2.2.2.1, inv.2.2.2.2.2.2.2.2.2.2.2.2.2.2.2.2.1, inv.2.2.2.2.2.2.2.2.2.2.2.2.2.2.2.2.2.1, inv.2.2.2.2.2.2.2.2.2.2.2.2.2.2.2.2.2.2.1, inv.2.2.2.2.2.2.2.2.2.2.2.2.2.2.2.2.2.2.2⟩
                    exact g_sub (L' := [(0, .ref (r 4)), (1, .int x1), (2, .ref (r 48)), (3, .int (x3 + v46)), (4, .int (x4 + (-1)))]) [4, 5, 6, 1, 0] rfl (ih8 _ (N8 ▸ dnm_lt c1_10 (by decide)) (upF σ 24 g43) x1 (x3 + v46) (x4 + (-1)) rfl j47 kp)
              · -- not taken at 63
                refine g_aload_n hF d_X0_settle_66 rfl 2 rfl ?_
                refine g_get (v := .ref (r 24)) hF 0 obC_4 (by decide) m_149 rfl d_X0_settle_67 ?_
                refine g_iload_n hF d_X0_settle_70 rfl 5 rfl ?_
                refine g_iload hF d_X0_settle_71 1 rfl ?_
                refine g_iconst hF (v := 3) d_X0_settle_73 (by decide) ?_
                refine g_iadd hF d_X0_settle_74 ?_
                refine g_callSN (As := [.ref (r 24), .int x3, .int (r3 + 3)]) (rest := []) hF (c_set a g r σ arC_24 (by decide) x3 (r3 + 3)) (Nat.le_of_ble_eq_true rfl) mS_X12_set nm_1214 rfl rfl (Nat.le_of_ble_eq_true rfl) d_X0_settle_75 (k_v (fun σ48 ⟨g48, eσ48, hg48⟩ => ?_))
                subst eσ48
                have kp : Keep [] [24] σ0 (upF σ 24 g48) := keep_F kp (by decide)
                refine g_aload_n hF d_X0_settle_78 rfl 2 rfl ?_
                refine g_get (v := .ref (r 24)) hF 0 obC_4 (by decide) m_149 rfl d_X0_settle_79 ?_
                refine g_iload_n hF d_X0_settle_82 rfl 5 rfl ?_
                refine g_iconst hF (v := 1) d_X0_settle_83 (by decide) ?_
                refine g_iadd hF d_X0_settle_84 ?_
                refine g_iload hF d_X0_settle_85 0 rfl ?_
                refine g_callSN (As := [.ref (r 24), .int (x3 + 1), .int r5]) (rest := []) hF (c_set a g r (upF σ 24 g48) arC_24 (by decide) (x3 + 1) r5) (Nat.le_of_ble_eq_true rfl) mS_X12_set nm_1214 rfl rfl (Nat.le_of_ble_eq_true rfl) d_X0_settle_87 (k_v (fun σ49 ⟨g49, eσ49, hg49⟩ => ?_))
                subst eσ49
                have kp : Keep [] [24] σ0 (upF (upF σ 24 g48) 24 g49) := keep_F kp (by decide)
                refine g_goto hF 119 d_X0_settle_90 (by decide) ?_
                refine g_iload_n hF d_X0_settle_119 rfl 5 rfl ?_
                refine g_gets hF (fun A s h => EC_z1 h) m_1075 d_X0_settle_120 ?_
                refine g_iload hF d_X0_settle_123 1 rfl ?_
                refine g_callSN (As := [.ref (a 1), .int r3]) (rest := [.int x3]) hF (c_att1 a g r (upF (upF σ 24 g48) 24 g49) r3) (Nat.le_of_ble_eq_true rfl) mS_X12_at nm_1213 rfl rfl (Nat.le_of_ble_eq_true rfl) d_X0_settle_125 (k_ro (fun r50 => ?_))
                refine g_iconst hF (v := 1) d_X0_settle_128 (by decide) ?_
                refine g_mmax hF (Nat.le_of_ble_eq_true rfl) m_1468 m_1131 m_23 m_1132 (Nat.le_of_ble_eq_true rfl) d_X0_settle_129 ?_
                refine g_nm (fun v52 ev52 => ?_)
                have mv52 := s_max ev52
                refine g_iadd hF d_X0_settle_132 ?_
                refine g_istore_n hF [(3, .int (x3 + v52)), (6, .int r5), (5, .int r3), (0, .ref (r 4)), (1, .int x1), (2, .ref (r 48)), (4, .int x4)] d_X0_settle_133 rfl hnn (by decide) rfl ?_
                refine g_iinc hF (x4 + (-1)) [(4, .int (x4 + (-1))), (3, .int (x3 + v52)), (6, .int r5), (5, .int r3), (0, .ref (r 4)), (1, .int x1), (2, .ref (r 48))] d_X0_settle_134 6 rfl rfl hnn (by decide) rfl ?_
                refine g_goto hF 8 d_X0_settle_137 (by decide) ?_
                have j53 : Inv (upF (upF σ 24 g48) 24 g49) := ⟨inv.1, inv.2.1, inv.2.2.1, inv.2.2.2.1, inv.2.2.2.2.1, inv.2.2.2.2.2.1, inv.2.2.2.2.2.2.1, inv.2.2.2.2.2.2.2.1, inv.2.2.2.2.2.2.2.2.1, inv.2.2.2.2.2.2.2.2.2.1, inv.2.2.2.2.2.2.2.2.2.2.1, inv.2.2.2.2.2.2.2.2.2.2.2.1, inv.2.2.2.2.2.2.2.2.2.2.2.2.1, inv.2.2.2.2.2.2.2.2.2.2.2.2.2.1, inv.2.2.2.2.2.2.2.2.2.2.2.2.2.2.1, inv.2.2.2.2.2.2.2.2.2.2.2.2.2.2.2.1, inv.2.2.2.2.2.2.2.2.2.2.2.2.2.2.2.2.1, inv.2.2.2.2.2.2.2.2.2.2.2.2.2.2.2.2.2.1, inv.2.2.2.2.2.2.2.2.2.2.2.2.2.2.2.2.2.2.1, inv.2.2.2.2.2.2.2.2.2.2.2.2.2.2.2.2.2.2.2⟩
                exact g_sub (L' := [(0, .ref (r 4)), (1, .int x1), (2, .ref (r 48)), (3, .int (x3 + v52)), (4, .int (x4 + (-1)))]) [4, 5, 6, 1, 0] rfl (ih8 _ (N8 ▸ dnm_lt c1_10 (by decide)) (upF (upF σ 24 g48) 24 g49) x1 (x3 + v52) (x4 + (-1)) rfl j53 kp)
  have kp : Keep [] [24] σ0 σ0 := keep_rf
  refine g_iload_n hF d_X0_settle_0 rfl 1 rfl ?_
  refine g_istore_n hF [(3, .int a1), (0, .ref (r 4)), (1, .int a1), (2, .ref (r 48))] d_X0_settle_1 rfl hnn (by decide) rfl ?_
  refine g_aload_n hF d_X0_settle_2 rfl 1 rfl ?_
  refine g_get (v := .int (σ0 4 1)) hF 1 obC_4 (by decide) m_152 rfl d_X0_settle_3 ?_
  refine g_istore hF [(4, .int (σ0 4 1)), (3, .int a1), (0, .ref (r 4)), (1, .int a1), (2, .ref (r 48))] d_X0_settle_6 hnn (by decide) rfl ?_
  exact g_sub (L' := [(0, .ref (r 4)), (1, .int a1), (2, .ref (r 48)), (3, .int a1), (4, .int (σ0 4 1))]) [2, 3, 4, 1, 0] rfl (b8 _ σ0 a1 a1 (σ0 4 1) rfl i0 kp)
